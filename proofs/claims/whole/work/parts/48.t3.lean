/-! TermRows.convergent(IIZ)J -/
def z_X11_convergent (S : fh_S) (h : fh_H) (a : Nat) (x1 : Int32) (x2 : Int32) (x3 : Int32) : Option ((Nat ⊕ Int64) × fh_H) :=
    fh_bx (z_X11_settled S h a x1) (fun r1 h2 => fh_b1 r1 (fun j4 => fh_ck (fh_kq S j4 6) (fh_bx (z_X11_requireTerm S h2 j4 x2) (fun r6 h7 => fh_b1 (h7.2.2 a 5) (fun j9 => fh_ck (fh_kq S j9 2) (fh_b1 (z_X2_climb S h7 j9 j4 x2) (fun h12 => fh_b1 (h12.2.2 a 5) (fun j14 => fh_ck (fh_kq S j14 2) (if (h12.1 j14 4) = 0 then (if x3 = 0 then (some (Sum.inr (h12.2.1 j14 0), h12)) else (some (Sum.inr (h12.2.1 j14 1), h12))) else (some (Sum.inr (-1 : Int64), h12)))))))))))
set_option maxHeartbeats 4000000 in
set_option maxRecDepth 100000 in
theorem k_X11_convergent {l : Launch} {S : fh_S} {g : fh_G} {h h' : fh_H} {z : (Nat → Nat) × (Nat → Nat)} (hj : fh_inj S g) {a : Nat} {x1 : Int32} {x2 : Int32} {x3 : Int32} {r : (Nat ⊕ Int64)} (hlt : l.stackTraces = false) (ha : fh_kq S a 11 = true) (hsp : z_X11_convergent S h a x1 x2 x3 = some (r, h')) : fx_Mx l yX11_convergent cX11_convergent 5 (some .long) 7 2 S g z [.ref (g.2.2 a), .int x1, .int x2, .int x3] h (fx_ol r) h' := by
  unfold z_X11_convergent at hsp
  refine fz_headX (own := RX11) (by decide) rfl hj (Nat.le_of_ble_eq_true rfl) ?_
  intro p e s m below meth c ls C EX hno hr hlocks hR hl
  have hl : lv_has ls 5 [(0, .ref (g.2.2 a)), (1, .int x1), (2, .int x2), (3, .int x3)] := hl
  have hx := C.1.1
  have hb := C.1.2.1
  refine lv_aload_n hx hb dX11_convergent_0 rfl (lv_at hl 0 rfl) ?_
  refine lv_iload_n hx hb dX11_convergent_1 rfl (lv_at hl 1 rfl) ?_
  rcases fr_bx hsp with ⟨r1, h2, E3, hsp⟩ | ⟨r1, h2, E3, hsp⟩
  · obtain ⟨e1, e2⟩ := fr_s2 hsp
    exact fz_xVo (k := r1) (rest := []) C EX hR (k_X11_settled C.2.2 hlt ha E3) Y_X11_settled YV_X11_settled Lk_RX11_127 (fz_rv C hR ha ⟨_, _, rfl, by decide⟩) rfl hl.1 ⟨Nat.le_of_ble_eq_true rfl, Nat.le_of_ble_eq_true rfl⟩ rfl (Nat.le_of_ble_eq_true rfl) ⟨Nat.le_of_ble_eq_true rfl, Nat.le_of_ble_eq_true rfl⟩ dX11_convergent_2 hno hlocks (congrArg fx_ol e1) e2 (Nat.le_of_ble_eq_true rfl) (Nat.le_of_ble_eq_true rfl)
  refine fz_xVr (rest := []) (st1 := [va_rf (Option.map g.2.2 r1)]) C EX hR (k_X11_settled C.2.2 hlt ha E3) Y_X11_settled YV_X11_settled Lk_RX11_127 (fz_rv C hR ha ⟨_, _, rfl, by decide⟩) rfl hl.1 ⟨Nat.le_of_ble_eq_true rfl, Nat.le_of_ble_eq_true rfl⟩ rfl (Nat.le_of_ble_eq_true rfl) ⟨Nat.le_of_ble_eq_true rfl, Nat.le_of_ble_eq_true rfl⟩ rfl dX11_convergent_2 (fun H locs hR => ?_)
  obtain ⟨j4, ej4, hq⟩ := fr_b1 hsp
  subst ej4
  have hsp := hq
  refine W.eq (g2 := F0 m 5 ls [.ref (g.2.2 j4)]) rfl ?_
  refine lv_astore (lv' := [(4, .ref (g.2.2 j4)), (0, .ref (g.2.2 a)), (1, .int x1), (2, .int x2), (3, .int x3)]) hx hb dX11_convergent_5 hl (by decide) rfl (fun ls hl => ?_)
  refine lv_aload hx hb dX11_convergent_7 (lv_at hl 0 rfl) ?_
  refine lv_iload_n hx hb dX11_convergent_9 rfl (lv_at hl 3 rfl) ?_
  obtain ⟨hk5, hsp⟩ := fr_ck hsp
  rcases fr_bx hsp with ⟨r6, h7, E8, hsp⟩ | ⟨r6, h7, E8, hsp⟩
  · obtain ⟨e1, e2⟩ := fr_s2 hsp
    exact fz_xSo (k := r6) (rest := []) C EX hR (k_X11_requireTerm C.2.2 hlt hk5 E8) Y_X11_requireTerm YS_X11_requireTerm Lk_RX11_196 rfl hl.1 ⟨Nat.le_of_ble_eq_true rfl, Nat.le_of_ble_eq_true rfl⟩ rfl (Nat.le_of_ble_eq_true rfl) ⟨Nat.le_of_ble_eq_true rfl, Nat.le_of_ble_eq_true rfl⟩ dX11_convergent_10 hno hlocks (congrArg fx_ol e1) e2 (Nat.le_of_ble_eq_true rfl) (Nat.le_of_ble_eq_true rfl)
  refine fz_xSr (rest := []) (st1 := []) C EX hR (k_X11_requireTerm C.2.2 hlt hk5 E8) Y_X11_requireTerm YS_X11_requireTerm Lk_RX11_196 rfl hl.1 ⟨Nat.le_of_ble_eq_true rfl, Nat.le_of_ble_eq_true rfl⟩ rfl (Nat.le_of_ble_eq_true rfl) ⟨Nat.le_of_ble_eq_true rfl, Nat.le_of_ble_eq_true rfl⟩ rfl dX11_convergent_10 (fun H locs hR => ?_)
  refine lv_aload_n hx hb dX11_convergent_13 rfl (lv_at hl 1 rfl) ?_
  obtain ⟨j9, hv10, hsp⟩ := fr_b1 hsp
  refine fr_getr C hR ha Fg_RX11_46 rfl hv10 dX11_convergent_14 ?_
  refine lv_aload hx hb dX11_convergent_17 (lv_at hl 0 rfl) ?_
  refine lv_iload_n hx hb dX11_convergent_19 rfl (lv_at hl 3 rfl) ?_
  obtain ⟨hk11, hsp⟩ := fr_ck hsp
  obtain ⟨h12, E13, hsp⟩ := fr_b1 hsp
  refine fq_callV (rest := []) (st1 := []) C hR (k_X2_climb C.2.2 hk11 hk5 E13) Y_X2_climb YV_X2_climb Lk_RX11_211 hk11 ⟨_, _, rfl, by decide⟩ rfl hl.1 ⟨Nat.le_of_ble_eq_true rfl, Nat.le_of_ble_eq_true rfl⟩ rfl (Nat.le_of_ble_eq_true rfl) ⟨Nat.le_of_ble_eq_true rfl, Nat.le_of_ble_eq_true rfl⟩ rfl dX11_convergent_20 (fun H locs hR => ?_)
  refine lv_aload_n hx hb dX11_convergent_23 rfl (lv_at hl 1 rfl) ?_
  obtain ⟨j14, hv15, hsp⟩ := fr_b1 hsp
  refine fr_getr C hR ha Fg_RX11_46 rfl hv15 dX11_convergent_24 ?_
  obtain ⟨hk16, hsp⟩ := fr_ck hsp
  refine fr_geti C hR hk16 Fg_RX11_214 rfl dX11_convergent_27 ?_
  refine lv_if_eq (tgt := 37) hx hb dX11_convergent_30 (by decide) (fun c17 => ?_) (fun c17 => ?_)
  · rw [if_pos c17] at hsp
    refine lv_iload_n hx hb dX11_convergent_37 rfl (lv_at hl 4 rfl) ?_
    refine lv_if_eq (tgt := 51) hx hb dX11_convergent_38 (by decide) (fun c18 => ?_) (fun c18 => ?_)
    · rw [if_pos c18] at hsp
      refine lv_aload_n hx hb dX11_convergent_51 rfl (lv_at hl 1 rfl) ?_
      refine fr_getr C hR ha Fg_RX11_46 rfl hv15 dX11_convergent_52 ?_
      refine fr_getj C hR hk16 Fg_RX11_224 rfl dX11_convergent_55 ?_
      obtain ⟨e1, e2⟩ := fr_s2 hsp
      exact fz_lret C hr hlocks hR e1 e2 (Nat.le_of_ble_eq_true rfl) (Nat.le_of_ble_eq_true rfl) dX11_convergent_58
    · rw [if_neg c18] at hsp
      refine lv_aload_n hx hb dX11_convergent_41 rfl (lv_at hl 1 rfl) ?_
      refine fr_getr C hR ha Fg_RX11_46 rfl hv15 dX11_convergent_42 ?_
      refine fr_getj C hR hk16 Fg_RX11_220 rfl dX11_convergent_45 ?_
      refine lv_goto (tgt := 58) hx hb dX11_convergent_48 (by decide) ?_
      obtain ⟨e1, e2⟩ := fr_s2 hsp
      exact fz_lret C hr hlocks hR e1 e2 (Nat.le_of_ble_eq_true rfl) (Nat.le_of_ble_eq_true rfl) dX11_convergent_58
  · rw [if_neg c17] at hsp
    refine lv_ldc2 hx hb C.1.2.2.2.1 (C.1.2.2.2.2 _ Kc_RX11_218) dX11_convergent_33 ?_
    obtain ⟨e1, e2⟩ := fr_s2 hsp
    exact fz_lret C hr hlocks hR e1 e2 (Nat.le_of_ble_eq_true rfl) (Nat.le_of_ble_eq_true rfl) dX11_convergent_36

/-! TermRows.nearest(II)I -/
def z_X11_nearest_b39 (S : fh_S) (a : Nat) : Nat → fh_H → Int32 → Nat → Int32 → Int32 → Option ((Nat ⊕ Int32) × fh_H)
  | 0, _, _, _, _, _ => none
  | n + 1, h, y2, y3, y4, y5 =>
    fh_ck (fh_kq S y3 6) (if (h.1 y3 6) ≤ y5 then (some (Sum.inr y4, h)) else (fh_b1 (h.2.2 a 5) (fun j3 => fh_b1 (z_X6_termAt S h y3 y5) (fun r5 => fh_ck (fh_kq S j3 2) (fh_b1 (z_X2_climbOne S h j3 r5) (fun h8 => fh_b1 (h8.2.2 a 5) (fun j10 => fh_ck (fh_kq S j10 2) (if (h8.1 j10 4) = 0 then (if (h8.2.1 j10 1) ≤ (Int32.toInt64 y2) then (fh_let (y5 + 1) (fun v15 => z_X11_nearest_b39 S a n h8 y2 y3 y5 v15)) else (some (Sum.inr y4, h8))) else (some (Sum.inr y4, h8))))))))))
def z_X11_nearest (S : fh_S) (h : fh_H) (a : Nat) (x1 : Int32) (x2 : Int32) : Option ((Nat ⊕ Int32) × fh_H) :=
    fh_bx (z_X11_settled S h a x1) (fun r1 h2 => fh_b1 r1 (fun j4 => fh_ck (fh_kq S j4 6) (fh_bx (z_X11_requireTerm S h2 j4 (0 : Int32)) (fun r6 h7 => if (1 : Int32) ≤ x2 then (fh_b1 (h7.2.2 a 5) (fun j10 => fh_ck (fh_kq S j10 2) (fh_b1 (z_X2_start S h7 j10) (fun h13 => z_X11_nearest_b39 S a 20000 h13 x2 j4 (0 : Int32) (0 : Int32))))) else (some (Sum.inl 0, h7))))))
set_option maxHeartbeats 4000000 in
set_option maxRecDepth 100000 in
theorem k_X11_nearest {l : Launch} {S : fh_S} {g : fh_G} {h h' : fh_H} {z : (Nat → Nat) × (Nat → Nat)} (hj : fh_inj S g) {a : Nat} {x1 : Int32} {x2 : Int32} {r : (Nat ⊕ Int32)} (hlt : l.stackTraces = false) (ha : fh_kq S a 11 = true) (hsp : z_X11_nearest S h a x1 x2 = some (r, h')) : fx_Mx l yX11_nearest cX11_nearest 6 (some .int) 7 3 S g z [.ref (g.2.2 a), .int x1, .int x2] h (fx_oi r) h' := by
  unfold z_X11_nearest at hsp
  refine fz_headX (own := RX11) (by decide) rfl hj (Nat.le_of_ble_eq_true rfl) ?_
  intro p e s m below meth c ls C EX hno hr hlocks hR hl
  have hl : lv_has ls 6 [(0, .ref (g.2.2 a)), (1, .int x1), (2, .int x2)] := hl
  have hx := C.1.1
  have hb := C.1.2.1
  have hb_39 : ∀ (n : Nat) (h : fh_H) (y2 : Int32) (y3 : Nat) (y4 : Int32) (y5 : Int32) (H : Heap) (locs : List Loc) (ls : Array Slot), z_X11_nearest_b39 S a n h y2 y3 y4 y5 = some (r, h') → fh_R S g s.heap h H locs → lv_has ls 6 [(0, .ref (g.2.2 a)), (2, .int y2), (3, .ref (g.2.2 y3)), (4, .int y4), (5, .int y5)] → fx_Wk p l e 7 3 2 s m [.ref (g.2.2 a), .int x1, .int x2] below meth c S g (fx_oi r) h' H locs (F0 m 39 ls []) := by
    intro n
    induction n with
    | zero => intro h y2 y3 y4 y5 H locs ls hsp; cases hsp
    | succ n ih =>
      intro h y2 y3 y4 y5 H locs ls hsp hR hl
      rw [z_X11_nearest_b39] at hsp
      refine lv_iload hx hb dX11_nearest_39 (lv_at hl 4 rfl) ?_
      refine lv_aload_n hx hb dX11_nearest_41 rfl (lv_at hl 2 rfl) ?_
      obtain ⟨hk1, hsp⟩ := fr_ck hsp
      refine fr_geti C hR hk1 Fg_RX11_175 rfl dX11_nearest_42 ?_
      refine lv_icmp_ge (tgt := 97) hx hb dX11_nearest_45 (by decide) (fun c2 => ?_) (fun c2 => ?_)
      · rw [if_pos c2] at hsp
        refine lv_iload hx hb dX11_nearest_97 (lv_at hl 3 rfl) ?_
        obtain ⟨e1, e2⟩ := fr_s2 hsp
        exact fz_iret C hr hlocks hR e1 e2 (Nat.le_of_ble_eq_true rfl) (Nat.le_of_ble_eq_true rfl) dX11_nearest_99
      · rw [if_neg c2] at hsp
        refine lv_aload_n hx hb dX11_nearest_48 rfl (lv_at hl 0 rfl) ?_
        obtain ⟨j3, hv4, hsp⟩ := fr_b1 hsp
        refine fr_getr C hR ha Fg_RX11_46 rfl hv4 dX11_nearest_49 ?_
        refine lv_aload_n hx hb dX11_nearest_52 rfl (lv_at hl 2 rfl) ?_
        refine lv_iload hx hb dX11_nearest_53 (lv_at hl 4 rfl) ?_
        obtain ⟨r5, E6, hsp⟩ := fr_b1 hsp
        refine fq_callV (rest := [.ref (g.2.2 j3)]) (st1 := [.int r5, .ref (g.2.2 j3)]) C hR (k_X6_termAt C.2.2 hk1 E6) Y_X6_termAt YV_X6_termAt Lk_RX11_200 hk1 ⟨_, _, rfl, by decide⟩ rfl hl.1 ⟨Nat.le_of_ble_eq_true rfl, Nat.le_of_ble_eq_true rfl⟩ rfl (Nat.le_of_ble_eq_true rfl) ⟨Nat.le_of_ble_eq_true rfl, Nat.le_of_ble_eq_true rfl⟩ rfl dX11_nearest_55 (fun H locs hR => ?_)
        obtain ⟨hk7, hsp⟩ := fr_ck hsp
        obtain ⟨h8, E9, hsp⟩ := fr_b1 hsp
        refine fq_callV (rest := []) (st1 := []) C hR (k_X2_climbOne C.2.2 hk7 E9) Y_X2_climbOne YV_X2_climbOne Lk_RX11_232 hk7 ⟨_, _, rfl, by decide⟩ rfl hl.1 ⟨Nat.le_of_ble_eq_true rfl, Nat.le_of_ble_eq_true rfl⟩ rfl (Nat.le_of_ble_eq_true rfl) ⟨Nat.le_of_ble_eq_true rfl, Nat.le_of_ble_eq_true rfl⟩ rfl dX11_nearest_58 (fun H locs hR => ?_)
        refine lv_aload_n hx hb dX11_nearest_61 rfl (lv_at hl 0 rfl) ?_
        obtain ⟨j10, hv11, hsp⟩ := fr_b1 hsp
        refine fr_getr C hR ha Fg_RX11_46 rfl hv11 dX11_nearest_62 ?_
        obtain ⟨hk12, hsp⟩ := fr_ck hsp
        refine fr_geti C hR hk12 Fg_RX11_214 rfl dX11_nearest_65 ?_
        refine lv_if_ne (tgt := 97) hx hb dX11_nearest_68 (by decide) (fun c13 => ?_) (fun c13 => ?_)
        · rw [if_neg c13] at hsp
          refine lv_iload hx hb dX11_nearest_97 (lv_at hl 3 rfl) ?_
          obtain ⟨e1, e2⟩ := fr_s2 hsp
          exact fz_iret C hr hlocks hR e1 e2 (Nat.le_of_ble_eq_true rfl) (Nat.le_of_ble_eq_true rfl) dX11_nearest_99
        · rw [if_pos c13] at hsp
          refine lv_aload_n hx hb dX11_nearest_71 rfl (lv_at hl 0 rfl) ?_
          refine fr_getr C hR ha Fg_RX11_46 rfl hv11 dX11_nearest_72 ?_
          refine fr_getj C hR hk12 Fg_RX11_220 rfl dX11_nearest_75 ?_
          refine lv_iload_n hx hb dX11_nearest_78 rfl (lv_at hl 1 rfl) ?_
          refine lv_i2l hx hb dX11_nearest_79 rfl ?_
          refine fr_lc_le (tgt := 87) hx hb dX11_nearest_80 dX11_nearest_81 (by decide) (fun c14 => ?_) (fun c14 => ?_)
          · rw [if_pos c14] at hsp
            refine lv_iload hx hb dX11_nearest_87 (lv_at hl 4 rfl) ?_
            refine lv_istore (lv' := [(4, .int y5), (0, .ref (g.2.2 a)), (2, .int y2), (3, .ref (g.2.2 y3)), (5, .int y5)]) hx hb dX11_nearest_89 hl (by decide) rfl (fun ls hl => ?_)
            obtain ⟨v15, ev15⟩ : ∃ z : Int32, z = y5 + 1 := ⟨_, rfl⟩
            have hsp := fr_let ev15 hsp
            refine lv_iinc (v := v15) (lv' := [(5, .int v15), (4, .int y5), (0, .ref (g.2.2 a)), (2, .int y2), (3, .ref (g.2.2 y3))]) hx hb dX11_nearest_91 hl (k := 4) rfl (by rw [ev15]; rfl) (by decide) rfl (fun ls hl => ?_)
            refine lv_goto (tgt := 39) hx hb dX11_nearest_94 (by decide) ?_
            refine W.widen (k := 2) (n := 6 * 2) (Nat.le_of_ble_eq_true rfl) (Nat.le_of_ble_eq_true rfl) ?_
            exact ih h8 y2 y3 y5 v15 _ _ _ hsp hR (lv_sub hl [2, 3, 4, 1, 0] rfl)
          · rw [if_neg c14] at hsp
            refine lv_goto (tgt := 97) hx hb dX11_nearest_84 (by decide) ?_
            refine lv_iload hx hb dX11_nearest_97 (lv_at hl 3 rfl) ?_
            obtain ⟨e1, e2⟩ := fr_s2 hsp
            exact fz_iret C hr hlocks hR e1 e2 (Nat.le_of_ble_eq_true rfl) (Nat.le_of_ble_eq_true rfl) dX11_nearest_99
  refine lv_aload_n hx hb dX11_nearest_0 rfl (lv_at hl 0 rfl) ?_
  refine lv_iload_n hx hb dX11_nearest_1 rfl (lv_at hl 1 rfl) ?_
  rcases fr_bx hsp with ⟨r1, h2, E3, hsp⟩ | ⟨r1, h2, E3, hsp⟩
  · obtain ⟨e1, e2⟩ := fr_s2 hsp
    exact fz_xVo (k := r1) (rest := []) C EX hR (k_X11_settled C.2.2 hlt ha E3) Y_X11_settled YV_X11_settled Lk_RX11_127 (fz_rv C hR ha ⟨_, _, rfl, by decide⟩) rfl hl.1 ⟨Nat.le_of_ble_eq_true rfl, Nat.le_of_ble_eq_true rfl⟩ rfl (Nat.le_of_ble_eq_true rfl) ⟨Nat.le_of_ble_eq_true rfl, Nat.le_of_ble_eq_true rfl⟩ dX11_nearest_2 hno hlocks (congrArg fx_oi e1) e2 (Nat.le_of_ble_eq_true rfl) (Nat.le_of_ble_eq_true rfl)
  refine fz_xVr (rest := []) (st1 := [va_rf (Option.map g.2.2 r1)]) C EX hR (k_X11_settled C.2.2 hlt ha E3) Y_X11_settled YV_X11_settled Lk_RX11_127 (fz_rv C hR ha ⟨_, _, rfl, by decide⟩) rfl hl.1 ⟨Nat.le_of_ble_eq_true rfl, Nat.le_of_ble_eq_true rfl⟩ rfl (Nat.le_of_ble_eq_true rfl) ⟨Nat.le_of_ble_eq_true rfl, Nat.le_of_ble_eq_true rfl⟩ rfl dX11_nearest_2 (fun H locs hR => ?_)
  obtain ⟨j4, ej4, hq⟩ := fr_b1 hsp
  subst ej4
  have hsp := hq
  refine W.eq (g2 := F0 m 5 ls [.ref (g.2.2 j4)]) rfl ?_
  refine lv_astore_n (lv' := [(3, .ref (g.2.2 j4)), (0, .ref (g.2.2 a)), (1, .int x1), (2, .int x2)]) hx hb dX11_nearest_5 rfl hl (by decide) rfl (fun ls hl => ?_)
  refine lv_aload_n hx hb dX11_nearest_6 rfl (lv_at hl 0 rfl) ?_
  refine lv_iconst (v := 0) hx hb dX11_nearest_7 (by decide) ?_
  obtain ⟨hk5, hsp⟩ := fr_ck hsp
  rcases fr_bx hsp with ⟨r6, h7, E8, hsp⟩ | ⟨r6, h7, E8, hsp⟩
  · obtain ⟨e1, e2⟩ := fr_s2 hsp
    exact fz_xSo (k := r6) (rest := []) C EX hR (k_X11_requireTerm C.2.2 hlt hk5 E8) Y_X11_requireTerm YS_X11_requireTerm Lk_RX11_196 rfl hl.1 ⟨Nat.le_of_ble_eq_true rfl, Nat.le_of_ble_eq_true rfl⟩ rfl (Nat.le_of_ble_eq_true rfl) ⟨Nat.le_of_ble_eq_true rfl, Nat.le_of_ble_eq_true rfl⟩ dX11_nearest_8 hno hlocks (congrArg fx_oi e1) e2 (Nat.le_of_ble_eq_true rfl) (Nat.le_of_ble_eq_true rfl)
  refine fz_xSr (rest := []) (st1 := []) C EX hR (k_X11_requireTerm C.2.2 hlt hk5 E8) Y_X11_requireTerm YS_X11_requireTerm Lk_RX11_196 rfl hl.1 ⟨Nat.le_of_ble_eq_true rfl, Nat.le_of_ble_eq_true rfl⟩ rfl (Nat.le_of_ble_eq_true rfl) ⟨Nat.le_of_ble_eq_true rfl, Nat.le_of_ble_eq_true rfl⟩ rfl dX11_nearest_8 (fun H locs hR => ?_)
  refine lv_iload_n hx hb dX11_nearest_11 rfl (lv_at hl 3 rfl) ?_
  refine lv_iconst (v := 1) hx hb dX11_nearest_12 (by decide) ?_
  refine lv_icmp_ge (tgt := 26) hx hb dX11_nearest_13 (by decide) (fun c9 => ?_) (fun c9 => ?_)
  · rw [if_pos c9] at hsp
    refine lv_aload_n hx hb dX11_nearest_26 rfl (lv_at hl 1 rfl) ?_
    obtain ⟨j10, hv11, hsp⟩ := fr_b1 hsp
    refine fr_getr C hR ha Fg_RX11_46 rfl hv11 dX11_nearest_27 ?_
    obtain ⟨hk12, hsp⟩ := fr_ck hsp
    obtain ⟨h13, E14, hsp⟩ := fr_b1 hsp
    refine fq_callV (rest := []) (st1 := []) C hR (k_X2_start C.2.2 hk12 E14) Y_X2_start YV_X2_start Lk_RX11_229 hk12 ⟨_, _, rfl, by decide⟩ rfl hl.1 ⟨Nat.le_of_ble_eq_true rfl, Nat.le_of_ble_eq_true rfl⟩ rfl (Nat.le_of_ble_eq_true rfl) ⟨Nat.le_of_ble_eq_true rfl, Nat.le_of_ble_eq_true rfl⟩ rfl dX11_nearest_30 (fun H locs hR => ?_)
    refine lv_iconst (v := 0) hx hb dX11_nearest_33 (by decide) ?_
    refine lv_istore (lv' := [(4, .int (0 : Int32)), (3, .ref (g.2.2 j4)), (0, .ref (g.2.2 a)), (1, .int x1), (2, .int x2)]) hx hb dX11_nearest_34 hl (by decide) rfl (fun ls hl => ?_)
    refine lv_iconst (v := 0) hx hb dX11_nearest_36 (by decide) ?_
    refine lv_istore (lv' := [(5, .int (0 : Int32)), (4, .int (0 : Int32)), (3, .ref (g.2.2 j4)), (0, .ref (g.2.2 a)), (1, .int x1), (2, .int x2)]) hx hb dX11_nearest_37 hl (by decide) rfl (fun ls hl => ?_)
    refine W.widen (k := 2) (n := 6 * 2) (Nat.le_of_ble_eq_true rfl) (Nat.le_of_ble_eq_true rfl) ?_
    exact hb_39 20000 h13 x2 j4 (0 : Int32) (0 : Int32) _ _ _ hsp hR (lv_sub hl [3, 5, 2, 1, 0] rfl)
  · rw [if_neg c9] at hsp
    obtain ⟨e1, e2⟩ := fr_s2 hsp
    exact fz_throw (is := 227) (text := "most is below 1") 0 (Or.inl rfl) C EX hlt hno hlocks hR (congrArg fx_oi e1) e2 (List.mem_of_getElem? (i := 4) rfl) hl.1 ⟨Nat.le_of_ble_eq_true rfl, Nat.le_of_ble_eq_true rfl, Nat.le_of_ble_eq_true rfl⟩ ⟨Nat.le_of_ble_eq_true rfl, Nat.le_of_ble_eq_true rfl⟩ (Nat.le_of_ble_eq_true rfl) (Nat.le_of_ble_eq_true rfl) dX11_nearest_16 dX11_nearest_19 dX11_nearest_20 dX11_nearest_22 dX11_nearest_25

/-! TermRows.mediant(IIIZ)J -/
def z_X11_mediant (S : fh_S) (h : fh_H) (a : Nat) (x1 : Int32) (x2 : Int32) (x3 : Int32) (x4 : Int32) : Option ((Nat ⊕ Int64) × fh_H) :=
    fh_bx (z_X11_settled S h a x1) (fun r1 h2 => fh_b1 r1 (fun j4 => if x2 < 0 then (some (Sum.inl 1, h2)) else (fh_ck (fh_kq S j4 6) (if ((h2.1 j4 6) - (2 : Int32)) ≤ x2 then (some (Sum.inl 1, h2)) else (if x3 < 0 then (some (Sum.inl 1, h2)) else (fh_b1 (z_X6_termAt S h2 j4 (x2 + (2 : Int32))) (fun r9 => if x3 ≤ r9 then (fh_b1 (h2.2.2 a 5) (fun j12 => fh_ck (fh_kq S j12 2) (fh_b1 (z_X2_climb S h2 j12 j4 (x2 + (1 : Int32))) (fun h15 => fh_b1 (h15.2.2 a 5) (fun j17 => fh_ck (fh_kq S j17 2) (if (h15.1 j17 4) = 0 then (fh_b1 (z_X11_grown (h15.2.1 j17 0) (Int32.toInt64 x3) (h15.2.1 j17 2)) (fun r21 => fh_b1 (z_X11_grown (h15.2.1 j17 1) (Int32.toInt64 x3) (h15.2.1 j17 3)) (fun r23 => if r21 = (1000000000000001 : Int64) then (some (Sum.inr (-1 : Int64), h15)) else (if r23 = (1000000000000001 : Int64) then (some (Sum.inr (-1 : Int64), h15)) else (if x4 = 0 then (some (Sum.inr r21, h15)) else (some (Sum.inr r23, h15))))))) else (some (Sum.inr (-1 : Int64), h15)))))))) else (some (Sum.inl 1, h2)))))))))
set_option maxHeartbeats 4000000 in
set_option maxRecDepth 100000 in
theorem k_X11_mediant {l : Launch} {S : fh_S} {g : fh_G} {h h' : fh_H} {z : (Nat → Nat) × (Nat → Nat)} (hj : fh_inj S g) {a : Nat} {x1 : Int32} {x2 : Int32} {x3 : Int32} {x4 : Int32} {r : (Nat ⊕ Int64)} (hlt : l.stackTraces = false) (ha : fh_kq S a 11 = true) (hsp : z_X11_mediant S h a x1 x2 x3 x4 = some (r, h')) : fx_Mx l yX11_mediant cX11_mediant 10 (some .long) 7 2 S g z [.ref (g.2.2 a), .int x1, .int x2, .int x3, .int x4] h (fx_ol r) h' := by
  unfold z_X11_mediant at hsp
  refine fz_headX (own := RX11) (by decide) rfl hj (Nat.le_of_ble_eq_true rfl) ?_
  intro p e s m below meth c ls C EX hno hr hlocks hR hl
  have hl : lv_has ls 10 [(0, .ref (g.2.2 a)), (1, .int x1), (2, .int x2), (3, .int x3), (4, .int x4)] := hl
  have hx := C.1.1
  have hb := C.1.2.1
  refine lv_aload_n hx hb dX11_mediant_0 rfl (lv_at hl 0 rfl) ?_
  refine lv_iload_n hx hb dX11_mediant_1 rfl (lv_at hl 1 rfl) ?_
  rcases fr_bx hsp with ⟨r1, h2, E3, hsp⟩ | ⟨r1, h2, E3, hsp⟩
  · obtain ⟨e1, e2⟩ := fr_s2 hsp
    exact fz_xVo (k := r1) (rest := []) C EX hR (k_X11_settled C.2.2 hlt ha E3) Y_X11_settled YV_X11_settled Lk_RX11_127 (fz_rv C hR ha ⟨_, _, rfl, by decide⟩) rfl hl.1 ⟨Nat.le_of_ble_eq_true rfl, Nat.le_of_ble_eq_true rfl⟩ rfl (Nat.le_of_ble_eq_true rfl) ⟨Nat.le_of_ble_eq_true rfl, Nat.le_of_ble_eq_true rfl⟩ dX11_mediant_2 hno hlocks (congrArg fx_ol e1) e2 (Nat.le_of_ble_eq_true rfl) (Nat.le_of_ble_eq_true rfl)
  refine fz_xVr (rest := []) (st1 := [va_rf (Option.map g.2.2 r1)]) C EX hR (k_X11_settled C.2.2 hlt ha E3) Y_X11_settled YV_X11_settled Lk_RX11_127 (fz_rv C hR ha ⟨_, _, rfl, by decide⟩) rfl hl.1 ⟨Nat.le_of_ble_eq_true rfl, Nat.le_of_ble_eq_true rfl⟩ rfl (Nat.le_of_ble_eq_true rfl) ⟨Nat.le_of_ble_eq_true rfl, Nat.le_of_ble_eq_true rfl⟩ rfl dX11_mediant_2 (fun H locs hR => ?_)
  obtain ⟨j4, ej4, hq⟩ := fr_b1 hsp
  subst ej4
  have hsp := hq
  refine W.eq (g2 := F0 m 5 ls [.ref (g.2.2 j4)]) rfl ?_
  refine lv_astore (lv' := [(5, .ref (g.2.2 j4)), (0, .ref (g.2.2 a)), (1, .int x1), (2, .int x2), (3, .int x3), (4, .int x4)]) hx hb dX11_mediant_5 hl (by decide) rfl (fun ls hl => ?_)
  refine lv_iload_n hx hb dX11_mediant_7 rfl (lv_at hl 3 rfl) ?_
  refine lv_if_lt (tgt := 38) hx hb dX11_mediant_8 (by decide) (fun c5 => ?_) (fun c5 => ?_)
  · rw [if_pos c5] at hsp
    obtain ⟨e1, e2⟩ := fr_s2 hsp
    exact fz_throw (is := 235) (text := "no such mediant") 1 (Or.inr rfl) C EX hlt hno hlocks hR (congrArg fx_ol e1) e2 (List.mem_of_getElem? (i := 5) rfl) hl.1 ⟨Nat.le_of_ble_eq_true rfl, Nat.le_of_ble_eq_true rfl, Nat.le_of_ble_eq_true rfl⟩ ⟨Nat.le_of_ble_eq_true rfl, Nat.le_of_ble_eq_true rfl⟩ (Nat.le_of_ble_eq_true rfl) (Nat.le_of_ble_eq_true rfl) dX11_mediant_38 dX11_mediant_41 dX11_mediant_42 dX11_mediant_44 dX11_mediant_47
  · rw [if_neg c5] at hsp
    refine lv_iload_n hx hb dX11_mediant_11 rfl (lv_at hl 3 rfl) ?_
    refine lv_aload hx hb dX11_mediant_12 (lv_at hl 0 rfl) ?_
    obtain ⟨hk6, hsp⟩ := fr_ck hsp
    refine fr_geti C hR hk6 Fg_RX11_175 rfl dX11_mediant_14 ?_
    refine lv_iconst (v := 2) hx hb dX11_mediant_17 (by decide) ?_
    refine lv_isub hx hb dX11_mediant_18 ?_
    refine lv_icmp_ge (tgt := 38) hx hb dX11_mediant_19 (by decide) (fun c7 => ?_) (fun c7 => ?_)
    · rw [if_pos c7] at hsp
      obtain ⟨e1, e2⟩ := fr_s2 hsp
      exact fz_throw (is := 235) (text := "no such mediant") 1 (Or.inr rfl) C EX hlt hno hlocks hR (congrArg fx_ol e1) e2 (List.mem_of_getElem? (i := 5) rfl) hl.1 ⟨Nat.le_of_ble_eq_true rfl, Nat.le_of_ble_eq_true rfl, Nat.le_of_ble_eq_true rfl⟩ ⟨Nat.le_of_ble_eq_true rfl, Nat.le_of_ble_eq_true rfl⟩ (Nat.le_of_ble_eq_true rfl) (Nat.le_of_ble_eq_true rfl) dX11_mediant_38 dX11_mediant_41 dX11_mediant_42 dX11_mediant_44 dX11_mediant_47
    · rw [if_neg c7] at hsp
      refine lv_iload_n hx hb dX11_mediant_22 rfl (lv_at hl 4 rfl) ?_
      refine lv_if_lt (tgt := 38) hx hb dX11_mediant_23 (by decide) (fun c8 => ?_) (fun c8 => ?_)
      · rw [if_pos c8] at hsp
        obtain ⟨e1, e2⟩ := fr_s2 hsp
        exact fz_throw (is := 235) (text := "no such mediant") 1 (Or.inr rfl) C EX hlt hno hlocks hR (congrArg fx_ol e1) e2 (List.mem_of_getElem? (i := 5) rfl) hl.1 ⟨Nat.le_of_ble_eq_true rfl, Nat.le_of_ble_eq_true rfl, Nat.le_of_ble_eq_true rfl⟩ ⟨Nat.le_of_ble_eq_true rfl, Nat.le_of_ble_eq_true rfl⟩ (Nat.le_of_ble_eq_true rfl) (Nat.le_of_ble_eq_true rfl) dX11_mediant_38 dX11_mediant_41 dX11_mediant_42 dX11_mediant_44 dX11_mediant_47
      · rw [if_neg c8] at hsp
        refine lv_iload_n hx hb dX11_mediant_26 rfl (lv_at hl 4 rfl) ?_
        refine lv_aload hx hb dX11_mediant_27 (lv_at hl 0 rfl) ?_
        refine lv_iload_n hx hb dX11_mediant_29 rfl (lv_at hl 3 rfl) ?_
        refine lv_iconst (v := 2) hx hb dX11_mediant_30 (by decide) ?_
        refine lv_iadd hx hb dX11_mediant_31 ?_
        obtain ⟨r9, E10, hsp⟩ := fr_b1 hsp
        refine fq_callV (rest := [.int x3]) (st1 := [.int r9, .int x3]) C hR (k_X6_termAt C.2.2 hk6 E10) Y_X6_termAt YV_X6_termAt Lk_RX11_200 hk6 ⟨_, _, rfl, by decide⟩ rfl hl.1 ⟨Nat.le_of_ble_eq_true rfl, Nat.le_of_ble_eq_true rfl⟩ rfl (Nat.le_of_ble_eq_true rfl) ⟨Nat.le_of_ble_eq_true rfl, Nat.le_of_ble_eq_true rfl⟩ rfl dX11_mediant_32 (fun H locs hR => ?_)
        refine lv_icmp_le (tgt := 48) hx hb dX11_mediant_35 (by decide) (fun c11 => ?_) (fun c11 => ?_)
        · rw [if_pos c11] at hsp
          refine lv_aload_n hx hb dX11_mediant_48 rfl (lv_at hl 1 rfl) ?_
          obtain ⟨j12, hv13, hsp⟩ := fr_b1 hsp
          refine fr_getr C hR ha Fg_RX11_46 rfl hv13 dX11_mediant_49 ?_
          refine lv_aload hx hb dX11_mediant_52 (lv_at hl 0 rfl) ?_
          refine lv_iload_n hx hb dX11_mediant_54 rfl (lv_at hl 3 rfl) ?_
          refine lv_iconst (v := 1) hx hb dX11_mediant_55 (by decide) ?_
          refine lv_iadd hx hb dX11_mediant_56 ?_
          obtain ⟨hk14, hsp⟩ := fr_ck hsp
          obtain ⟨h15, E16, hsp⟩ := fr_b1 hsp
          refine fq_callV (rest := []) (st1 := []) C hR (k_X2_climb C.2.2 hk14 hk6 E16) Y_X2_climb YV_X2_climb Lk_RX11_211 hk14 ⟨_, _, rfl, by decide⟩ rfl hl.1 ⟨Nat.le_of_ble_eq_true rfl, Nat.le_of_ble_eq_true rfl⟩ rfl (Nat.le_of_ble_eq_true rfl) ⟨Nat.le_of_ble_eq_true rfl, Nat.le_of_ble_eq_true rfl⟩ rfl dX11_mediant_57 (fun H locs hR => ?_)
          refine lv_aload_n hx hb dX11_mediant_60 rfl (lv_at hl 1 rfl) ?_
          obtain ⟨j17, hv18, hsp⟩ := fr_b1 hsp
          refine fr_getr C hR ha Fg_RX11_46 rfl hv18 dX11_mediant_61 ?_
          obtain ⟨hk19, hsp⟩ := fr_ck hsp
          refine fr_geti C hR hk19 Fg_RX11_214 rfl dX11_mediant_64 ?_
          refine lv_if_eq (tgt := 74) hx hb dX11_mediant_67 (by decide) (fun c20 => ?_) (fun c20 => ?_)
          · rw [if_pos c20] at hsp
            refine lv_aload_n hx hb dX11_mediant_74 rfl (lv_at hl 1 rfl) ?_
            refine fr_getr C hR ha Fg_RX11_46 rfl hv18 dX11_mediant_75 ?_
            refine fr_getj C hR hk19 Fg_RX11_224 rfl dX11_mediant_78 ?_
            refine lv_iload_n hx hb dX11_mediant_81 rfl (lv_at hl 4 rfl) ?_
            refine lv_i2l hx hb dX11_mediant_82 rfl ?_
            refine lv_aload_n hx hb dX11_mediant_83 rfl (lv_at hl 1 rfl) ?_
            refine fr_getr C hR ha Fg_RX11_46 rfl hv18 dX11_mediant_84 ?_
            refine fr_getj C hR hk19 Fg_RX11_237 rfl dX11_mediant_87 ?_
            obtain ⟨r21, E22, hsp⟩ := fr_b1 hsp
            refine fq_callS (rest := []) (st1 := [.long r21]) C hR (k_X11_grown C.2.2 E22) Y_X11_grown YS_X11_grown Lk_RX11_240 rfl hl.1 ⟨Nat.le_of_ble_eq_true rfl, Nat.le_of_ble_eq_true rfl⟩ rfl (Nat.le_of_ble_eq_true rfl) ⟨Nat.le_of_ble_eq_true rfl, Nat.le_of_ble_eq_true rfl⟩ rfl dX11_mediant_90 (fun H locs hR => ?_)
            refine lv_lstore (lv' := [(6, .long r21), (5, .ref (g.2.2 j4)), (0, .ref (g.2.2 a)), (1, .int x1), (2, .int x2), (3, .int x3), (4, .int x4)]) hx hb dX11_mediant_93 hl (by decide) rfl (fun ls hl => ?_)
            refine lv_aload_n hx hb dX11_mediant_95 rfl (lv_at hl 2 rfl) ?_
            refine fr_getr C hR ha Fg_RX11_46 rfl hv18 dX11_mediant_96 ?_
            refine fr_getj C hR hk19 Fg_RX11_220 rfl dX11_mediant_99 ?_
            refine lv_iload_n hx hb dX11_mediant_102 rfl (lv_at hl 5 rfl) ?_
            refine lv_i2l hx hb dX11_mediant_103 rfl ?_
            refine lv_aload_n hx hb dX11_mediant_104 rfl (lv_at hl 2 rfl) ?_
            refine fr_getr C hR ha Fg_RX11_46 rfl hv18 dX11_mediant_105 ?_
            refine fr_getj C hR hk19 Fg_RX11_244 rfl dX11_mediant_108 ?_
            obtain ⟨r23, E24, hsp⟩ := fr_b1 hsp
            refine fq_callS (rest := []) (st1 := [.long r23]) C hR (k_X11_grown C.2.2 E24) Y_X11_grown YS_X11_grown Lk_RX11_240 rfl hl.1 ⟨Nat.le_of_ble_eq_true rfl, Nat.le_of_ble_eq_true rfl⟩ rfl (Nat.le_of_ble_eq_true rfl) ⟨Nat.le_of_ble_eq_true rfl, Nat.le_of_ble_eq_true rfl⟩ rfl dX11_mediant_111 (fun H locs hR => ?_)
            refine lv_lstore (lv' := [(8, .long r23), (6, .long r21), (5, .ref (g.2.2 j4)), (0, .ref (g.2.2 a)), (1, .int x1), (2, .int x2), (3, .int x3), (4, .int x4)]) hx hb dX11_mediant_114 hl (by decide) rfl (fun ls hl => ?_)
            refine lv_lload hx hb dX11_mediant_116 (lv_at hl 1 rfl) ?_
            refine lv_ldc2 hx hb C.1.2.2.2.1 (C.1.2.2.2.2 _ Kc_RX11_247) dX11_mediant_118 ?_
            refine fr_lc_eq (tgt := 134) hx hb dX11_mediant_121 dX11_mediant_122 (by decide) (fun c25 => ?_) (fun c25 => ?_)
            · rw [if_pos c25] at hsp
              refine lv_ldc2 hx hb C.1.2.2.2.1 (C.1.2.2.2.2 _ Kc_RX11_218) dX11_mediant_134 ?_
              obtain ⟨e1, e2⟩ := fr_s2 hsp
              exact fz_lret C hr hlocks hR e1 e2 (Nat.le_of_ble_eq_true rfl) (Nat.le_of_ble_eq_true rfl) dX11_mediant_137
            · rw [if_neg c25] at hsp
              refine lv_lload hx hb dX11_mediant_125 (lv_at hl 0 rfl) ?_
              refine lv_ldc2 hx hb C.1.2.2.2.1 (C.1.2.2.2.2 _ Kc_RX11_247) dX11_mediant_127 ?_
              refine fr_lc_ne (tgt := 138) hx hb dX11_mediant_130 dX11_mediant_131 (by decide) (fun c26 => ?_) (fun c26 => ?_)
              · rw [if_neg c26] at hsp
                refine lv_iload hx hb dX11_mediant_138 (lv_at hl 7 rfl) ?_
                refine lv_if_eq (tgt := 148) hx hb dX11_mediant_140 (by decide) (fun c27 => ?_) (fun c27 => ?_)
                · rw [if_pos c27] at hsp
                  refine lv_lload hx hb dX11_mediant_148 (lv_at hl 1 rfl) ?_
                  obtain ⟨e1, e2⟩ := fr_s2 hsp
                  exact fz_lret C hr hlocks hR e1 e2 (Nat.le_of_ble_eq_true rfl) (Nat.le_of_ble_eq_true rfl) dX11_mediant_150
                · rw [if_neg c27] at hsp
                  refine lv_lload hx hb dX11_mediant_143 (lv_at hl 0 rfl) ?_
                  refine lv_goto (tgt := 150) hx hb dX11_mediant_145 (by decide) ?_
                  obtain ⟨e1, e2⟩ := fr_s2 hsp
                  exact fz_lret C hr hlocks hR e1 e2 (Nat.le_of_ble_eq_true rfl) (Nat.le_of_ble_eq_true rfl) dX11_mediant_150
              · rw [if_pos c26] at hsp
                refine lv_ldc2 hx hb C.1.2.2.2.1 (C.1.2.2.2.2 _ Kc_RX11_218) dX11_mediant_134 ?_
                obtain ⟨e1, e2⟩ := fr_s2 hsp
                exact fz_lret C hr hlocks hR e1 e2 (Nat.le_of_ble_eq_true rfl) (Nat.le_of_ble_eq_true rfl) dX11_mediant_137
          · rw [if_neg c20] at hsp
            refine lv_ldc2 hx hb C.1.2.2.2.1 (C.1.2.2.2.2 _ Kc_RX11_218) dX11_mediant_70 ?_
            obtain ⟨e1, e2⟩ := fr_s2 hsp
            exact fz_lret C hr hlocks hR e1 e2 (Nat.le_of_ble_eq_true rfl) (Nat.le_of_ble_eq_true rfl) dX11_mediant_73
        · rw [if_neg c11] at hsp
          obtain ⟨e1, e2⟩ := fr_s2 hsp
          exact fz_throw (is := 235) (text := "no such mediant") 1 (Or.inr rfl) C EX hlt hno hlocks hR (congrArg fx_ol e1) e2 (List.mem_of_getElem? (i := 5) rfl) hl.1 ⟨Nat.le_of_ble_eq_true rfl, Nat.le_of_ble_eq_true rfl, Nat.le_of_ble_eq_true rfl⟩ ⟨Nat.le_of_ble_eq_true rfl, Nat.le_of_ble_eq_true rfl⟩ (Nat.le_of_ble_eq_true rfl) (Nat.le_of_ble_eq_true rfl) dX11_mediant_38 dX11_mediant_41 dX11_mediant_42 dX11_mediant_44 dX11_mediant_47

/-! TermRows.compare(II)I -/
def z_X11_compare_b119 (S : fh_S) (a : Nat) (h : fh_H) (y5 : Int32) (t0 : Int32) : Option ((Nat ⊕ Int32) × fh_H) :=
    if (y5 - y5 / (2 : Int32) * (2 : Int32)) = 0 then (if t0 = (1 : Int32) then (some (Sum.inr (-1 : Int32), h)) else (some (Sum.inr (1 : Int32), h))) else (if t0 = (0 : Int32) then (some (Sum.inr (-1 : Int32), h)) else (some (Sum.inr (1 : Int32), h)))
def z_X11_compare_b88 (S : fh_S) (a : Nat) (h : fh_H) (y3 : Nat) (y4 : Nat) (y5 : Int32) (y6 : Int32) (y7 : Int32) : Option ((Nat ⊕ Int32) × fh_H) :=
    if y6 = 0 then (if y7 = 0 then (fh_ck (fh_kq S y3 6) (fh_b1 (z_X6_termAt S h y3 y5) (fun r4 => fh_ck (fh_kq S y4 6) (fh_b1 (z_X6_termAt S h y4 y5) (fun r7 => if r7 ≤ r4 then (z_X11_compare_b119 S a h y5 (0 : Int32)) else (z_X11_compare_b119 S a h y5 (1 : Int32))))))) else (z_X11_compare_b119 S a h y5 (1 : Int32))) else (z_X11_compare_b119 S a h y5 (0 : Int32))
def z_X11_compare_b57 (S : fh_S) (a : Nat) (h : fh_H) (y3 : Nat) (y4 : Nat) (y5 : Int32) (t0 : Int32) : Option ((Nat ⊕ Int32) × fh_H) :=
    fh_ck (fh_kq S y4 6) (fh_b1 (z_X6_knows S h y4 y5) (fun r2 => if r2 = 0 then (if t0 = 0 then (z_X11_compare_b88 S a h y3 y4 y5 t0 (1 : Int32)) else (if (1 : Int32) = 0 then (z_X11_compare_b88 S a h y3 y4 y5 t0 (1 : Int32)) else (some (Sum.inr (0 : Int32), h)))) else (if t0 = 0 then (z_X11_compare_b88 S a h y3 y4 y5 t0 (0 : Int32)) else (if (0 : Int32) = 0 then (z_X11_compare_b88 S a h y3 y4 y5 t0 (0 : Int32)) else (some (Sum.inr (0 : Int32), h))))))
def z_X11_compare (S : fh_S) (h : fh_H) (a : Nat) (x1 : Int32) (x2 : Int32) : Option ((Nat ⊕ Int32) × fh_H) :=
    fh_bx (z_X11_settled S h a x1) (fun r1 h2 => fh_b1 r1 (fun j4 => fh_bx (z_X11_settled S h2 a x2) (fun r5 h6 => fh_b1 r5 (fun j8 => fh_ck (fh_kq S j4 6) (fh_ck (fh_kq S j8 6) (fh_b1 (z_X11_placesAlike S h6 j4 j8) (fun r11 => fh_b1 (z_X6_unknownAt S h6 j4 r11) (fun r13 => if r13 = 0 then (fh_b1 (z_X6_unknownAt S h6 j8 r11) (fun r16 => if r16 = 0 then (fh_b1 (z_X6_knows S h6 j4 r11) (fun r19 => if r19 = 0 then (z_X11_compare_b57 S a h6 j4 j8 r11 (1 : Int32)) else (z_X11_compare_b57 S a h6 j4 j8 r11 (0 : Int32)))) else (some (Sum.inr (-2 : Int32), h6)))) else (some (Sum.inr (-2 : Int32), h6))))))))))
set_option maxHeartbeats 4000000 in
set_option maxRecDepth 100000 in
theorem k_X11_compare {l : Launch} {S : fh_S} {g : fh_G} {h h' : fh_H} {z : (Nat → Nat) × (Nat → Nat)} (hj : fh_inj S g) {a : Nat} {x1 : Int32} {x2 : Int32} {r : (Nat ⊕ Int32)} (hlt : l.stackTraces = false) (ha : fh_kq S a 11 = true) (hsp : z_X11_compare S h a x1 x2 = some (r, h')) : fx_Mx l yX11_compare cX11_compare 9 (some .int) 7 2 S g z [.ref (g.2.2 a), .int x1, .int x2] h (fx_oi r) h' := by
  unfold z_X11_compare at hsp
  refine fz_headX (own := RX11) (by decide) rfl hj (Nat.le_of_ble_eq_true rfl) ?_
  intro p e s m below meth c ls C EX hno hr hlocks hR hl
  have hl : lv_has ls 9 [(0, .ref (g.2.2 a)), (1, .int x1), (2, .int x2)] := hl
  have hx := C.1.1
  have hb := C.1.2.1
  have hb_119 : ∀ (h : fh_H) (y5 : Int32) (t0 : Int32) (H : Heap) (locs : List Loc) (ls : Array Slot), z_X11_compare_b119 S a h y5 t0 = some (r, h') → fh_R S g s.heap h H locs → lv_has ls 9 [(5, .int y5)] → fx_Wk p l e 7 2 2 s m [.ref (g.2.2 a), .int x1, .int x2] below meth c S g (fx_oi r) h' H locs (F0 m 119 ls [.int t0]) := by
    intro h y5 t0 H locs ls hsp hR hl
    unfold z_X11_compare_b119 at hsp
    refine lv_istore (lv' := [(8, .int t0), (5, .int y5)]) hx hb dX11_compare_119 hl (by decide) rfl (fun ls hl => ?_)
    refine lv_iload hx hb dX11_compare_121 (lv_at hl 0 rfl) ?_
    refine lv_iload hx hb dX11_compare_123 (lv_at hl 1 rfl) ?_
    refine lv_iconst (v := 2) hx hb dX11_compare_125 (by decide) ?_
    refine lv_irem hx hb dX11_compare_126 (by decide) ?_
    refine lv_if_ne (tgt := 134) hx hb dX11_compare_127 (by decide) (fun c1 => ?_) (fun c1 => ?_)
    · rw [if_neg c1] at hsp
      refine lv_iconst (v := 0) hx hb dX11_compare_134 (by decide) ?_
      refine lv_icmp_ne (tgt := 142) hx hb dX11_compare_135 (by decide) (fun c2 => ?_) (fun c2 => ?_)
      · rw [if_neg c2] at hsp
        refine lv_iconst (v := 1) hx hb dX11_compare_142 (by decide) ?_
        obtain ⟨e1, e2⟩ := fr_s2 hsp
        exact fz_iret C hr hlocks hR e1 e2 (Nat.le_of_ble_eq_true rfl) (Nat.le_of_ble_eq_true rfl) dX11_compare_143
      · rw [if_pos c2] at hsp
        refine lv_iconst (v := -1) hx hb dX11_compare_138 (by decide) ?_
        refine lv_goto (tgt := 143) hx hb dX11_compare_139 (by decide) ?_
        obtain ⟨e1, e2⟩ := fr_s2 hsp
        exact fz_iret C hr hlocks hR e1 e2 (Nat.le_of_ble_eq_true rfl) (Nat.le_of_ble_eq_true rfl) dX11_compare_143
    · rw [if_pos c1] at hsp
      refine lv_iconst (v := 1) hx hb dX11_compare_130 (by decide) ?_
      refine lv_goto (tgt := 135) hx hb dX11_compare_131 (by decide) ?_
      refine lv_icmp_ne (tgt := 142) hx hb dX11_compare_135 (by decide) (fun c3 => ?_) (fun c3 => ?_)
      · rw [if_neg c3] at hsp
        refine lv_iconst (v := 1) hx hb dX11_compare_142 (by decide) ?_
        obtain ⟨e1, e2⟩ := fr_s2 hsp
        exact fz_iret C hr hlocks hR e1 e2 (Nat.le_of_ble_eq_true rfl) (Nat.le_of_ble_eq_true rfl) dX11_compare_143
      · rw [if_pos c3] at hsp
        refine lv_iconst (v := -1) hx hb dX11_compare_138 (by decide) ?_
        refine lv_goto (tgt := 143) hx hb dX11_compare_139 (by decide) ?_
        obtain ⟨e1, e2⟩ := fr_s2 hsp
        exact fz_iret C hr hlocks hR e1 e2 (Nat.le_of_ble_eq_true rfl) (Nat.le_of_ble_eq_true rfl) dX11_compare_143
  have hb_88 : ∀ (h : fh_H) (y3 : Nat) (y4 : Nat) (y5 : Int32) (y6 : Int32) (y7 : Int32) (H : Heap) (locs : List Loc) (ls : Array Slot), z_X11_compare_b88 S a h y3 y4 y5 y6 y7 = some (r, h') → fh_R S g s.heap h H locs → lv_has ls 9 [(3, .ref (g.2.2 y3)), (4, .ref (g.2.2 y4)), (5, .int y5), (6, .int y6), (7, .int y7)] → fx_Wk p l e 7 2 2 s m [.ref (g.2.2 a), .int x1, .int x2] below meth c S g (fx_oi r) h' H locs (F0 m 88 ls []) := by
    intro h y3 y4 y5 y6 y7 H locs ls hsp hR hl
    unfold z_X11_compare_b88 at hsp
    refine lv_iload hx hb dX11_compare_88 (lv_at hl 3 rfl) ?_
    refine lv_if_ne (tgt := 118) hx hb dX11_compare_90 (by decide) (fun c1 => ?_) (fun c1 => ?_)
    · rw [if_neg c1] at hsp
      refine lv_iconst (v := 0) hx hb dX11_compare_118 (by decide) ?_
      refine W.widen (k := 2) (n := 6 * 2) (Nat.le_of_ble_eq_true rfl) (Nat.le_of_ble_eq_true rfl) ?_
      exact hb_119 h y5 (0 : Int32) _ _ _ hsp hR (lv_sub hl [2] rfl)
    · rw [if_pos c1] at hsp
      refine lv_iload hx hb dX11_compare_93 (lv_at hl 4 rfl) ?_
      refine lv_if_ne (tgt := 114) hx hb dX11_compare_95 (by decide) (fun c2 => ?_) (fun c2 => ?_)
      · rw [if_neg c2] at hsp
        refine lv_iconst (v := 1) hx hb dX11_compare_114 (by decide) ?_
        refine lv_goto (tgt := 119) hx hb dX11_compare_115 (by decide) ?_
        refine W.widen (k := 2) (n := 6 * 2) (Nat.le_of_ble_eq_true rfl) (Nat.le_of_ble_eq_true rfl) ?_
        exact hb_119 h y5 (1 : Int32) _ _ _ hsp hR (lv_sub hl [2] rfl)
      · rw [if_pos c2] at hsp
        refine lv_aload_n hx hb dX11_compare_98 rfl (lv_at hl 0 rfl) ?_
        refine lv_iload hx hb dX11_compare_99 (lv_at hl 2 rfl) ?_
        obtain ⟨hk3, hsp⟩ := fr_ck hsp
        obtain ⟨r4, E5, hsp⟩ := fr_b1 hsp
        refine fq_callV (rest := []) (st1 := [.int r4]) C hR (k_X6_termAt C.2.2 hk3 E5) Y_X6_termAt YV_X6_termAt Lk_RX11_200 hk3 ⟨_, _, rfl, by decide⟩ rfl hl.1 ⟨Nat.le_of_ble_eq_true rfl, Nat.le_of_ble_eq_true rfl⟩ rfl (Nat.le_of_ble_eq_true rfl) ⟨Nat.le_of_ble_eq_true rfl, Nat.le_of_ble_eq_true rfl⟩ rfl dX11_compare_101 (fun H locs hR => ?_)
        refine lv_aload hx hb dX11_compare_104 (lv_at hl 1 rfl) ?_
        refine lv_iload hx hb dX11_compare_106 (lv_at hl 2 rfl) ?_
        obtain ⟨hk6, hsp⟩ := fr_ck hsp
        obtain ⟨r7, E8, hsp⟩ := fr_b1 hsp
        refine fq_callV (rest := [.int r4]) (st1 := [.int r7, .int r4]) C hR (k_X6_termAt C.2.2 hk6 E8) Y_X6_termAt YV_X6_termAt Lk_RX11_200 hk6 ⟨_, _, rfl, by decide⟩ rfl hl.1 ⟨Nat.le_of_ble_eq_true rfl, Nat.le_of_ble_eq_true rfl⟩ rfl (Nat.le_of_ble_eq_true rfl) ⟨Nat.le_of_ble_eq_true rfl, Nat.le_of_ble_eq_true rfl⟩ rfl dX11_compare_108 (fun H locs hR => ?_)
        refine lv_icmp_ge (tgt := 118) hx hb dX11_compare_111 (by decide) (fun c9 => ?_) (fun c9 => ?_)
        · rw [if_pos c9] at hsp
          refine lv_iconst (v := 0) hx hb dX11_compare_118 (by decide) ?_
          refine W.widen (k := 2) (n := 6 * 2) (Nat.le_of_ble_eq_true rfl) (Nat.le_of_ble_eq_true rfl) ?_
          exact hb_119 h y5 (0 : Int32) _ _ _ hsp hR (lv_sub hl [2] rfl)
        · rw [if_neg c9] at hsp
          refine lv_iconst (v := 1) hx hb dX11_compare_114 (by decide) ?_
          refine lv_goto (tgt := 119) hx hb dX11_compare_115 (by decide) ?_
          refine W.widen (k := 2) (n := 6 * 2) (Nat.le_of_ble_eq_true rfl) (Nat.le_of_ble_eq_true rfl) ?_
          exact hb_119 h y5 (1 : Int32) _ _ _ hsp hR (lv_sub hl [2] rfl)
  have hb_57 : ∀ (h : fh_H) (y3 : Nat) (y4 : Nat) (y5 : Int32) (t0 : Int32) (H : Heap) (locs : List Loc) (ls : Array Slot), z_X11_compare_b57 S a h y3 y4 y5 t0 = some (r, h') → fh_R S g s.heap h H locs → lv_has ls 9 [(3, .ref (g.2.2 y3)), (4, .ref (g.2.2 y4)), (5, .int y5)] → fx_Wk p l e 7 2 2 s m [.ref (g.2.2 a), .int x1, .int x2] below meth c S g (fx_oi r) h' H locs (F0 m 57 ls [.int t0]) := by
    intro h y3 y4 y5 t0 H locs ls hsp hR hl
    unfold z_X11_compare_b57 at hsp
    refine lv_istore (lv' := [(6, .int t0), (3, .ref (g.2.2 y3)), (4, .ref (g.2.2 y4)), (5, .int y5)]) hx hb dX11_compare_57 hl (by decide) rfl (fun ls hl => ?_)
    refine lv_aload hx hb dX11_compare_59 (lv_at hl 2 rfl) ?_
    refine lv_iload hx hb dX11_compare_61 (lv_at hl 3 rfl) ?_
    obtain ⟨hk1, hsp⟩ := fr_ck hsp
    obtain ⟨r2, E3, hsp⟩ := fr_b1 hsp
    refine fq_callV (rest := []) (st1 := [.int r2]) C hR (k_X6_knows C.2.2 hk1 E3) Y_X6_knows YV_X6_knows Lk_RX11_257 hk1 ⟨_, _, rfl, by decide⟩ rfl hl.1 ⟨Nat.le_of_ble_eq_true rfl, Nat.le_of_ble_eq_true rfl⟩ rfl (Nat.le_of_ble_eq_true rfl) ⟨Nat.le_of_ble_eq_true rfl, Nat.le_of_ble_eq_true rfl⟩ rfl dX11_compare_63 (fun H locs hR => ?_)
    refine lv_if_ne (tgt := 73) hx hb dX11_compare_66 (by decide) (fun c4 => ?_) (fun c4 => ?_)
    · rw [if_neg c4] at hsp
      refine lv_iconst (v := 0) hx hb dX11_compare_73 (by decide) ?_
      refine lv_istore (lv' := [(7, .int (0 : Int32)), (6, .int t0), (3, .ref (g.2.2 y3)), (4, .ref (g.2.2 y4)), (5, .int y5)]) hx hb dX11_compare_74 hl (by decide) rfl (fun ls hl => ?_)
      refine lv_iload hx hb dX11_compare_76 (lv_at hl 1 rfl) ?_
      refine lv_if_eq (tgt := 88) hx hb dX11_compare_78 (by decide) (fun c5 => ?_) (fun c5 => ?_)
      · rw [if_pos c5] at hsp
        refine W.widen (k := 2) (n := 6 * 2) (Nat.le_of_ble_eq_true rfl) (Nat.le_of_ble_eq_true rfl) ?_
        exact hb_88 h y3 y4 y5 t0 (0 : Int32) _ _ _ hsp hR (lv_sub hl [2, 3, 4, 1, 0] rfl)
      · rw [if_neg c5] at hsp
        refine lv_iload hx hb dX11_compare_81 (lv_at hl 0 rfl) ?_
        refine lv_if_eq (tgt := 88) hx hb dX11_compare_83 (by decide) (fun c6 => ?_) (fun c6 => ?_)
        · rw [if_pos c6] at hsp
          refine W.widen (k := 2) (n := 6 * 2) (Nat.le_of_ble_eq_true rfl) (Nat.le_of_ble_eq_true rfl) ?_
          exact hb_88 h y3 y4 y5 t0 (0 : Int32) _ _ _ hsp hR (lv_sub hl [2, 3, 4, 1, 0] rfl)
        · rw [if_neg c6] at hsp
          refine lv_iconst (v := 0) hx hb dX11_compare_86 (by decide) ?_
          obtain ⟨e1, e2⟩ := fr_s2 hsp
          exact fz_iret C hr hlocks hR e1 e2 (Nat.le_of_ble_eq_true rfl) (Nat.le_of_ble_eq_true rfl) dX11_compare_87
    · rw [if_pos c4] at hsp
      refine lv_iconst (v := 1) hx hb dX11_compare_69 (by decide) ?_
      refine lv_goto (tgt := 74) hx hb dX11_compare_70 (by decide) ?_
      refine lv_istore (lv' := [(7, .int (1 : Int32)), (6, .int t0), (3, .ref (g.2.2 y3)), (4, .ref (g.2.2 y4)), (5, .int y5)]) hx hb dX11_compare_74 hl (by decide) rfl (fun ls hl => ?_)
      refine lv_iload hx hb dX11_compare_76 (lv_at hl 1 rfl) ?_
      refine lv_if_eq (tgt := 88) hx hb dX11_compare_78 (by decide) (fun c7 => ?_) (fun c7 => ?_)
      · rw [if_pos c7] at hsp
        refine W.widen (k := 2) (n := 6 * 2) (Nat.le_of_ble_eq_true rfl) (Nat.le_of_ble_eq_true rfl) ?_
        exact hb_88 h y3 y4 y5 t0 (1 : Int32) _ _ _ hsp hR (lv_sub hl [2, 3, 4, 1, 0] rfl)
      · rw [if_neg c7] at hsp
        refine lv_iload hx hb dX11_compare_81 (lv_at hl 0 rfl) ?_
        refine lv_if_eq (tgt := 88) hx hb dX11_compare_83 (by decide) (fun c8 => ?_) (fun c8 => ?_)
        · rw [if_pos c8] at hsp
          refine W.widen (k := 2) (n := 6 * 2) (Nat.le_of_ble_eq_true rfl) (Nat.le_of_ble_eq_true rfl) ?_
          exact hb_88 h y3 y4 y5 t0 (1 : Int32) _ _ _ hsp hR (lv_sub hl [2, 3, 4, 1, 0] rfl)
        · rw [if_neg c8] at hsp
          refine lv_iconst (v := 0) hx hb dX11_compare_86 (by decide) ?_
          obtain ⟨e1, e2⟩ := fr_s2 hsp
          exact fz_iret C hr hlocks hR e1 e2 (Nat.le_of_ble_eq_true rfl) (Nat.le_of_ble_eq_true rfl) dX11_compare_87
  refine lv_aload_n hx hb dX11_compare_0 rfl (lv_at hl 0 rfl) ?_
  refine lv_iload_n hx hb dX11_compare_1 rfl (lv_at hl 1 rfl) ?_
  rcases fr_bx hsp with ⟨r1, h2, E3, hsp⟩ | ⟨r1, h2, E3, hsp⟩
  · obtain ⟨e1, e2⟩ := fr_s2 hsp
    exact fz_xVo (k := r1) (rest := []) C EX hR (k_X11_settled C.2.2 hlt ha E3) Y_X11_settled YV_X11_settled Lk_RX11_127 (fz_rv C hR ha ⟨_, _, rfl, by decide⟩) rfl hl.1 ⟨Nat.le_of_ble_eq_true rfl, Nat.le_of_ble_eq_true rfl⟩ rfl (Nat.le_of_ble_eq_true rfl) ⟨Nat.le_of_ble_eq_true rfl, Nat.le_of_ble_eq_true rfl⟩ dX11_compare_2 hno hlocks (congrArg fx_oi e1) e2 (Nat.le_of_ble_eq_true rfl) (Nat.le_of_ble_eq_true rfl)
  refine fz_xVr (rest := []) (st1 := [va_rf (Option.map g.2.2 r1)]) C EX hR (k_X11_settled C.2.2 hlt ha E3) Y_X11_settled YV_X11_settled Lk_RX11_127 (fz_rv C hR ha ⟨_, _, rfl, by decide⟩) rfl hl.1 ⟨Nat.le_of_ble_eq_true rfl, Nat.le_of_ble_eq_true rfl⟩ rfl (Nat.le_of_ble_eq_true rfl) ⟨Nat.le_of_ble_eq_true rfl, Nat.le_of_ble_eq_true rfl⟩ rfl dX11_compare_2 (fun H locs hR => ?_)
  obtain ⟨j4, ej4, hq⟩ := fr_b1 hsp
  subst ej4
  have hsp := hq
  refine W.eq (g2 := F0 m 5 ls [.ref (g.2.2 j4)]) rfl ?_
  refine lv_astore_n (lv' := [(3, .ref (g.2.2 j4)), (0, .ref (g.2.2 a)), (1, .int x1), (2, .int x2)]) hx hb dX11_compare_5 rfl hl (by decide) rfl (fun ls hl => ?_)
  refine lv_aload_n hx hb dX11_compare_6 rfl (lv_at hl 1 rfl) ?_
  refine lv_iload_n hx hb dX11_compare_7 rfl (lv_at hl 3 rfl) ?_
  rcases fr_bx hsp with ⟨r5, h6, E7, hsp⟩ | ⟨r5, h6, E7, hsp⟩
  · obtain ⟨e1, e2⟩ := fr_s2 hsp
    exact fz_xVo (k := r5) (rest := []) C EX hR (k_X11_settled C.2.2 hlt ha E7) Y_X11_settled YV_X11_settled Lk_RX11_127 (fz_rv C hR ha ⟨_, _, rfl, by decide⟩) rfl hl.1 ⟨Nat.le_of_ble_eq_true rfl, Nat.le_of_ble_eq_true rfl⟩ rfl (Nat.le_of_ble_eq_true rfl) ⟨Nat.le_of_ble_eq_true rfl, Nat.le_of_ble_eq_true rfl⟩ dX11_compare_8 hno hlocks (congrArg fx_oi e1) e2 (Nat.le_of_ble_eq_true rfl) (Nat.le_of_ble_eq_true rfl)
  refine fz_xVr (rest := []) (st1 := [va_rf (Option.map g.2.2 r5)]) C EX hR (k_X11_settled C.2.2 hlt ha E7) Y_X11_settled YV_X11_settled Lk_RX11_127 (fz_rv C hR ha ⟨_, _, rfl, by decide⟩) rfl hl.1 ⟨Nat.le_of_ble_eq_true rfl, Nat.le_of_ble_eq_true rfl⟩ rfl (Nat.le_of_ble_eq_true rfl) ⟨Nat.le_of_ble_eq_true rfl, Nat.le_of_ble_eq_true rfl⟩ rfl dX11_compare_8 (fun H locs hR => ?_)
  obtain ⟨j8, ej8, hq⟩ := fr_b1 hsp
  subst ej8
  have hsp := hq
  refine W.eq (g2 := F0 m 11 ls [.ref (g.2.2 j8)]) rfl ?_
  refine lv_astore (lv' := [(4, .ref (g.2.2 j8)), (3, .ref (g.2.2 j4)), (0, .ref (g.2.2 a)), (1, .int x1), (2, .int x2)]) hx hb dX11_compare_11 hl (by decide) rfl (fun ls hl => ?_)
  refine lv_aload_n hx hb dX11_compare_13 rfl (lv_at hl 1 rfl) ?_
  refine lv_aload hx hb dX11_compare_14 (lv_at hl 0 rfl) ?_
  obtain ⟨hk9, hsp⟩ := fr_ck hsp
  obtain ⟨hk10, hsp⟩ := fr_ck hsp
  obtain ⟨r11, E12, hsp⟩ := fr_b1 hsp
  refine fq_callS (rest := []) (st1 := [.int r11]) C hR (k_X11_placesAlike C.2.2 hk9 hk10 E12) Y_X11_placesAlike YS_X11_placesAlike Lk_RX11_249 rfl hl.1 ⟨Nat.le_of_ble_eq_true rfl, Nat.le_of_ble_eq_true rfl⟩ rfl (Nat.le_of_ble_eq_true rfl) ⟨Nat.le_of_ble_eq_true rfl, Nat.le_of_ble_eq_true rfl⟩ rfl dX11_compare_16 (fun H locs hR => ?_)
  refine lv_istore (lv' := [(5, .int r11), (4, .ref (g.2.2 j8)), (3, .ref (g.2.2 j4)), (0, .ref (g.2.2 a)), (1, .int x1), (2, .int x2)]) hx hb dX11_compare_19 hl (by decide) rfl (fun ls hl => ?_)
  refine lv_aload_n hx hb dX11_compare_21 rfl (lv_at hl 2 rfl) ?_
  refine lv_iload hx hb dX11_compare_22 (lv_at hl 0 rfl) ?_
  obtain ⟨r13, E14, hsp⟩ := fr_b1 hsp
  refine fq_callV (rest := []) (st1 := [.int r13]) C hR (k_X6_unknownAt C.2.2 hk9 E14) Y_X6_unknownAt YV_X6_unknownAt Lk_RX11_253 hk9 ⟨_, _, rfl, by decide⟩ rfl hl.1 ⟨Nat.le_of_ble_eq_true rfl, Nat.le_of_ble_eq_true rfl⟩ rfl (Nat.le_of_ble_eq_true rfl) ⟨Nat.le_of_ble_eq_true rfl, Nat.le_of_ble_eq_true rfl⟩ rfl dX11_compare_24 (fun H locs hR => ?_)
  refine lv_if_ne (tgt := 40) hx hb dX11_compare_27 (by decide) (fun c15 => ?_) (fun c15 => ?_)
  · rw [if_neg c15] at hsp
    refine lv_bipush (v := -2) hx hb dX11_compare_40 (by decide) ?_
    obtain ⟨e1, e2⟩ := fr_s2 hsp
    exact fz_iret C hr hlocks hR e1 e2 (Nat.le_of_ble_eq_true rfl) (Nat.le_of_ble_eq_true rfl) dX11_compare_42
  · rw [if_pos c15] at hsp
    refine lv_aload hx hb dX11_compare_30 (lv_at hl 1 rfl) ?_
    refine lv_iload hx hb dX11_compare_32 (lv_at hl 0 rfl) ?_
    obtain ⟨r16, E17, hsp⟩ := fr_b1 hsp
    refine fq_callV (rest := []) (st1 := [.int r16]) C hR (k_X6_unknownAt C.2.2 hk10 E17) Y_X6_unknownAt YV_X6_unknownAt Lk_RX11_253 hk10 ⟨_, _, rfl, by decide⟩ rfl hl.1 ⟨Nat.le_of_ble_eq_true rfl, Nat.le_of_ble_eq_true rfl⟩ rfl (Nat.le_of_ble_eq_true rfl) ⟨Nat.le_of_ble_eq_true rfl, Nat.le_of_ble_eq_true rfl⟩ rfl dX11_compare_34 (fun H locs hR => ?_)
    refine lv_if_eq (tgt := 43) hx hb dX11_compare_37 (by decide) (fun c18 => ?_) (fun c18 => ?_)
    · rw [if_pos c18] at hsp
      refine lv_aload_n hx hb dX11_compare_43 rfl (lv_at hl 2 rfl) ?_
      refine lv_iload hx hb dX11_compare_44 (lv_at hl 0 rfl) ?_
      obtain ⟨r19, E20, hsp⟩ := fr_b1 hsp
      refine fq_callV (rest := []) (st1 := [.int r19]) C hR (k_X6_knows C.2.2 hk9 E20) Y_X6_knows YV_X6_knows Lk_RX11_257 hk9 ⟨_, _, rfl, by decide⟩ rfl hl.1 ⟨Nat.le_of_ble_eq_true rfl, Nat.le_of_ble_eq_true rfl⟩ rfl (Nat.le_of_ble_eq_true rfl) ⟨Nat.le_of_ble_eq_true rfl, Nat.le_of_ble_eq_true rfl⟩ rfl dX11_compare_46 (fun H locs hR => ?_)
      refine lv_if_ne (tgt := 56) hx hb dX11_compare_49 (by decide) (fun c21 => ?_) (fun c21 => ?_)
      · rw [if_neg c21] at hsp
        refine lv_iconst (v := 0) hx hb dX11_compare_56 (by decide) ?_
        refine W.widen (k := 2) (n := 6 * 2) (Nat.le_of_ble_eq_true rfl) (Nat.le_of_ble_eq_true rfl) ?_
        exact hb_57 h6 j4 j8 r11 (0 : Int32) _ _ _ hsp hR (lv_sub hl [2, 1, 0] rfl)
      · rw [if_pos c21] at hsp
        refine lv_iconst (v := 1) hx hb dX11_compare_52 (by decide) ?_
        refine lv_goto (tgt := 57) hx hb dX11_compare_53 (by decide) ?_
        refine W.widen (k := 2) (n := 6 * 2) (Nat.le_of_ble_eq_true rfl) (Nat.le_of_ble_eq_true rfl) ?_
        exact hb_57 h6 j4 j8 r11 (1 : Int32) _ _ _ hsp hR (lv_sub hl [2, 1, 0] rfl)
    · rw [if_neg c18] at hsp
      refine lv_bipush (v := -2) hx hb dX11_compare_40 (by decide) ?_
      obtain ⟨e1, e2⟩ := fr_s2 hsp
      exact fz_iret C hr hlocks hR e1 e2 (Nat.le_of_ble_eq_true rfl) (Nat.le_of_ble_eq_true rfl) dX11_compare_42

/-! TermRows.alike(II)I -/
def z_X11_alike (S : fh_S) (h : fh_H) (a : Nat) (x1 : Int32) (x2 : Int32) : Option ((Nat ⊕ Int32) × fh_H) :=
    fh_bx (z_X11_settled S h a x1) (fun r1 h2 => fh_b1 r1 (fun j4 => fh_bx (z_X11_settled S h2 a x2) (fun r5 h6 => fh_b1 r5 (fun j8 => fh_ck (fh_kq S j4 6) (fh_ck (fh_kq S j8 6) (fh_b1 (z_X11_placesAlike S h6 j4 j8) (fun r11 => some (Sum.inr r11, h6))))))))
set_option maxHeartbeats 4000000 in
set_option maxRecDepth 100000 in
theorem k_X11_alike {l : Launch} {S : fh_S} {g : fh_G} {h h' : fh_H} {z : (Nat → Nat) × (Nat → Nat)} (hj : fh_inj S g) {a : Nat} {x1 : Int32} {x2 : Int32} {r : (Nat ⊕ Int32)} (hlt : l.stackTraces = false) (ha : fh_kq S a 11 = true) (hsp : z_X11_alike S h a x1 x2 = some (r, h')) : fx_Mx l yX11_alike cX11_alike 3 (some .int) 7 2 S g z [.ref (g.2.2 a), .int x1, .int x2] h (fx_oi r) h' := by
  unfold z_X11_alike at hsp
  refine fz_headX (own := RX11) (by decide) rfl hj (Nat.le_of_ble_eq_true rfl) ?_
  intro p e s m below meth c ls C EX hno hr hlocks hR hl
  have hl : lv_has ls 3 [(0, .ref (g.2.2 a)), (1, .int x1), (2, .int x2)] := hl
  have hx := C.1.1
  have hb := C.1.2.1
  refine lv_aload_n hx hb dX11_alike_0 rfl (lv_at hl 0 rfl) ?_
  refine lv_iload_n hx hb dX11_alike_1 rfl (lv_at hl 1 rfl) ?_
  rcases fr_bx hsp with ⟨r1, h2, E3, hsp⟩ | ⟨r1, h2, E3, hsp⟩
  · obtain ⟨e1, e2⟩ := fr_s2 hsp
    exact fz_xVo (k := r1) (rest := []) C EX hR (k_X11_settled C.2.2 hlt ha E3) Y_X11_settled YV_X11_settled Lk_RX11_127 (fz_rv C hR ha ⟨_, _, rfl, by decide⟩) rfl hl.1 ⟨Nat.le_of_ble_eq_true rfl, Nat.le_of_ble_eq_true rfl⟩ rfl (Nat.le_of_ble_eq_true rfl) ⟨Nat.le_of_ble_eq_true rfl, Nat.le_of_ble_eq_true rfl⟩ dX11_alike_2 hno hlocks (congrArg fx_oi e1) e2 (Nat.le_of_ble_eq_true rfl) (Nat.le_of_ble_eq_true rfl)
  refine fz_xVr (rest := []) (st1 := [va_rf (Option.map g.2.2 r1)]) C EX hR (k_X11_settled C.2.2 hlt ha E3) Y_X11_settled YV_X11_settled Lk_RX11_127 (fz_rv C hR ha ⟨_, _, rfl, by decide⟩) rfl hl.1 ⟨Nat.le_of_ble_eq_true rfl, Nat.le_of_ble_eq_true rfl⟩ rfl (Nat.le_of_ble_eq_true rfl) ⟨Nat.le_of_ble_eq_true rfl, Nat.le_of_ble_eq_true rfl⟩ rfl dX11_alike_2 (fun H locs hR => ?_)
  obtain ⟨j4, ej4, hq⟩ := fr_b1 hsp
  subst ej4
  have hsp := hq
  refine W.eq (g2 := F0 m 5 ls [.ref (g.2.2 j4)]) rfl ?_
  refine lv_aload_n hx hb dX11_alike_5 rfl (lv_at hl 0 rfl) ?_
  refine lv_iload_n hx hb dX11_alike_6 rfl (lv_at hl 2 rfl) ?_
  rcases fr_bx hsp with ⟨r5, h6, E7, hsp⟩ | ⟨r5, h6, E7, hsp⟩
  · obtain ⟨e1, e2⟩ := fr_s2 hsp
    exact fz_xVo (k := r5) (rest := [.ref (g.2.2 j4)]) C EX hR (k_X11_settled C.2.2 hlt ha E7) Y_X11_settled YV_X11_settled Lk_RX11_127 (fz_rv C hR ha ⟨_, _, rfl, by decide⟩) rfl hl.1 ⟨Nat.le_of_ble_eq_true rfl, Nat.le_of_ble_eq_true rfl⟩ rfl (Nat.le_of_ble_eq_true rfl) ⟨Nat.le_of_ble_eq_true rfl, Nat.le_of_ble_eq_true rfl⟩ dX11_alike_7 hno hlocks (congrArg fx_oi e1) e2 (Nat.le_of_ble_eq_true rfl) (Nat.le_of_ble_eq_true rfl)
  refine fz_xVr (rest := [.ref (g.2.2 j4)]) (st1 := [va_rf (Option.map g.2.2 r5), .ref (g.2.2 j4)]) C EX hR (k_X11_settled C.2.2 hlt ha E7) Y_X11_settled YV_X11_settled Lk_RX11_127 (fz_rv C hR ha ⟨_, _, rfl, by decide⟩) rfl hl.1 ⟨Nat.le_of_ble_eq_true rfl, Nat.le_of_ble_eq_true rfl⟩ rfl (Nat.le_of_ble_eq_true rfl) ⟨Nat.le_of_ble_eq_true rfl, Nat.le_of_ble_eq_true rfl⟩ rfl dX11_alike_7 (fun H locs hR => ?_)
  obtain ⟨j8, ej8, hq⟩ := fr_b1 hsp
  subst ej8
  have hsp := hq
  refine W.eq (g2 := F0 m 10 ls [.ref (g.2.2 j8), .ref (g.2.2 j4)]) rfl ?_
  obtain ⟨hk9, hsp⟩ := fr_ck hsp
  obtain ⟨hk10, hsp⟩ := fr_ck hsp
  obtain ⟨r11, E12, hsp⟩ := fr_b1 hsp
  refine fq_callS (rest := []) (st1 := [.int r11]) C hR (k_X11_placesAlike C.2.2 hk9 hk10 E12) Y_X11_placesAlike YS_X11_placesAlike Lk_RX11_249 rfl hl.1 ⟨Nat.le_of_ble_eq_true rfl, Nat.le_of_ble_eq_true rfl⟩ rfl (Nat.le_of_ble_eq_true rfl) ⟨Nat.le_of_ble_eq_true rfl, Nat.le_of_ble_eq_true rfl⟩ rfl dX11_alike_10 (fun H locs hR => ?_)
  obtain ⟨e1, e2⟩ := fr_s2 hsp
  exact fz_iret C hr hlocks hR e1 e2 (Nat.le_of_ble_eq_true rfl) (Nat.le_of_ble_eq_true rfl) dX11_alike_13

/-! TermRows.again(II)I -/
def z_X11_again (S : fh_S) (h : fh_H) (a : Nat) (x1 : Int32) (x2 : Int32) : Option ((Nat ⊕ Int32) × fh_H) :=
    fh_bx (z_X11_settled S h a x1) (fun r1 h2 => fh_b1 r1 (fun j4 => if x2 = 0 then (fh_ck (fh_kq S j4 6) (fh_b1 (z_X11_comingAgain S h2 j4) (fun r7 => fh_b1 (z_X11_partOfPair r7 x2) (fun r9 => some (Sum.inr r9, h2))))) else (if x2 = (1 : Int32) then (fh_ck (fh_kq S j4 6) (fh_b1 (z_X11_comingAgain S h2 j4) (fun r13 => fh_b1 (z_X11_partOfPair r13 x2) (fun r15 => some (Sum.inr r15, h2))))) else (some (Sum.inl 1, h2)))))
set_option maxHeartbeats 4000000 in
set_option maxRecDepth 100000 in
theorem k_X11_again {l : Launch} {S : fh_S} {g : fh_G} {h h' : fh_H} {z : (Nat → Nat) × (Nat → Nat)} (hj : fh_inj S g) {a : Nat} {x1 : Int32} {x2 : Int32} {r : (Nat ⊕ Int32)} (hlt : l.stackTraces = false) (ha : fh_kq S a 11 = true) (hsp : z_X11_again S h a x1 x2 = some (r, h')) : fx_Mx l yX11_again cX11_again 4 (some .int) 7 2 S g z [.ref (g.2.2 a), .int x1, .int x2] h (fx_oi r) h' := by
  unfold z_X11_again at hsp
  refine fz_headX (own := RX11) (by decide) rfl hj (Nat.le_of_ble_eq_true rfl) ?_
  intro p e s m below meth c ls C EX hno hr hlocks hR hl
  have hl : lv_has ls 4 [(0, .ref (g.2.2 a)), (1, .int x1), (2, .int x2)] := hl
  have hx := C.1.1
  have hb := C.1.2.1
  refine lv_aload_n hx hb dX11_again_0 rfl (lv_at hl 0 rfl) ?_
  refine lv_iload_n hx hb dX11_again_1 rfl (lv_at hl 1 rfl) ?_
  rcases fr_bx hsp with ⟨r1, h2, E3, hsp⟩ | ⟨r1, h2, E3, hsp⟩
  · obtain ⟨e1, e2⟩ := fr_s2 hsp
    exact fz_xVo (k := r1) (rest := []) C EX hR (k_X11_settled C.2.2 hlt ha E3) Y_X11_settled YV_X11_settled Lk_RX11_127 (fz_rv C hR ha ⟨_, _, rfl, by decide⟩) rfl hl.1 ⟨Nat.le_of_ble_eq_true rfl, Nat.le_of_ble_eq_true rfl⟩ rfl (Nat.le_of_ble_eq_true rfl) ⟨Nat.le_of_ble_eq_true rfl, Nat.le_of_ble_eq_true rfl⟩ dX11_again_2 hno hlocks (congrArg fx_oi e1) e2 (Nat.le_of_ble_eq_true rfl) (Nat.le_of_ble_eq_true rfl)
  refine fz_xVr (rest := []) (st1 := [va_rf (Option.map g.2.2 r1)]) C EX hR (k_X11_settled C.2.2 hlt ha E3) Y_X11_settled YV_X11_settled Lk_RX11_127 (fz_rv C hR ha ⟨_, _, rfl, by decide⟩) rfl hl.1 ⟨Nat.le_of_ble_eq_true rfl, Nat.le_of_ble_eq_true rfl⟩ rfl (Nat.le_of_ble_eq_true rfl) ⟨Nat.le_of_ble_eq_true rfl, Nat.le_of_ble_eq_true rfl⟩ rfl dX11_again_2 (fun H locs hR => ?_)
  obtain ⟨j4, ej4, hq⟩ := fr_b1 hsp
  subst ej4
  have hsp := hq
  refine W.eq (g2 := F0 m 5 ls [.ref (g.2.2 j4)]) rfl ?_
  refine lv_astore_n (lv' := [(3, .ref (g.2.2 j4)), (0, .ref (g.2.2 a)), (1, .int x1), (2, .int x2)]) hx hb dX11_again_5 rfl hl (by decide) rfl (fun ls hl => ?_)
  refine lv_iload_n hx hb dX11_again_6 rfl (lv_at hl 3 rfl) ?_
  refine lv_if_eq (tgt := 26) hx hb dX11_again_7 (by decide) (fun c5 => ?_) (fun c5 => ?_)
  · rw [if_pos c5] at hsp
    refine lv_aload_n hx hb dX11_again_26 rfl (lv_at hl 0 rfl) ?_
    obtain ⟨hk6, hsp⟩ := fr_ck hsp
    obtain ⟨r7, E8, hsp⟩ := fr_b1 hsp
    refine fq_callS (rest := []) (st1 := [.int r7]) C hR (k_X11_comingAgain C.2.2 hk6 E8) Y_X11_comingAgain YS_X11_comingAgain Lk_RX11_262 rfl hl.1 ⟨Nat.le_of_ble_eq_true rfl, Nat.le_of_ble_eq_true rfl⟩ rfl (Nat.le_of_ble_eq_true rfl) ⟨Nat.le_of_ble_eq_true rfl, Nat.le_of_ble_eq_true rfl⟩ rfl dX11_again_27 (fun H locs hR => ?_)
    refine lv_iload_n hx hb dX11_again_30 rfl (lv_at hl 3 rfl) ?_
    obtain ⟨r9, E10, hsp⟩ := fr_b1 hsp
    refine fq_callS (rest := []) (st1 := [.int r9]) C hR (k_X11_partOfPair C.2.2 E10) Y_X11_partOfPair YS_X11_partOfPair Lk_RX11_265 rfl hl.1 ⟨Nat.le_of_ble_eq_true rfl, Nat.le_of_ble_eq_true rfl⟩ rfl (Nat.le_of_ble_eq_true rfl) ⟨Nat.le_of_ble_eq_true rfl, Nat.le_of_ble_eq_true rfl⟩ rfl dX11_again_31 (fun H locs hR => ?_)
    obtain ⟨e1, e2⟩ := fr_s2 hsp
    exact fz_iret C hr hlocks hR e1 e2 (Nat.le_of_ble_eq_true rfl) (Nat.le_of_ble_eq_true rfl) dX11_again_34
  · rw [if_neg c5] at hsp
    refine lv_iload_n hx hb dX11_again_10 rfl (lv_at hl 3 rfl) ?_
    refine lv_iconst (v := 1) hx hb dX11_again_11 (by decide) ?_
    refine lv_icmp_eq (tgt := 26) hx hb dX11_again_12 (by decide) (fun c11 => ?_) (fun c11 => ?_)
    · rw [if_pos c11] at hsp
      refine lv_aload_n hx hb dX11_again_26 rfl (lv_at hl 0 rfl) ?_
      obtain ⟨hk12, hsp⟩ := fr_ck hsp
      obtain ⟨r13, E14, hsp⟩ := fr_b1 hsp
      refine fq_callS (rest := []) (st1 := [.int r13]) C hR (k_X11_comingAgain C.2.2 hk12 E14) Y_X11_comingAgain YS_X11_comingAgain Lk_RX11_262 rfl hl.1 ⟨Nat.le_of_ble_eq_true rfl, Nat.le_of_ble_eq_true rfl⟩ rfl (Nat.le_of_ble_eq_true rfl) ⟨Nat.le_of_ble_eq_true rfl, Nat.le_of_ble_eq_true rfl⟩ rfl dX11_again_27 (fun H locs hR => ?_)
      refine lv_iload_n hx hb dX11_again_30 rfl (lv_at hl 3 rfl) ?_
      obtain ⟨r15, E16, hsp⟩ := fr_b1 hsp
      refine fq_callS (rest := []) (st1 := [.int r15]) C hR (k_X11_partOfPair C.2.2 E16) Y_X11_partOfPair YS_X11_partOfPair Lk_RX11_265 rfl hl.1 ⟨Nat.le_of_ble_eq_true rfl, Nat.le_of_ble_eq_true rfl⟩ rfl (Nat.le_of_ble_eq_true rfl) ⟨Nat.le_of_ble_eq_true rfl, Nat.le_of_ble_eq_true rfl⟩ rfl dX11_again_31 (fun H locs hR => ?_)
      obtain ⟨e1, e2⟩ := fr_s2 hsp
      exact fz_iret C hr hlocks hR e1 e2 (Nat.le_of_ble_eq_true rfl) (Nat.le_of_ble_eq_true rfl) dX11_again_34
    · rw [if_neg c11] at hsp
      obtain ⟨e1, e2⟩ := fr_s2 hsp
      exact fz_throwW (is := 260) (text := "no such part of again") 1 (Or.inr rfl) C EX hlt hno hlocks hR (congrArg fx_oi e1) e2 (List.mem_of_getElem? (i := 6) rfl) hl.1 ⟨Nat.le_of_ble_eq_true rfl, Nat.le_of_ble_eq_true rfl, Nat.le_of_ble_eq_true rfl⟩ ⟨Nat.le_of_ble_eq_true rfl, Nat.le_of_ble_eq_true rfl⟩ (Nat.le_of_ble_eq_true rfl) (Nat.le_of_ble_eq_true rfl) dX11_again_15 dX11_again_18 dX11_again_19 dX11_again_22 dX11_again_25

/-! TermRows.tails(III)I -/
def z_X11_tails (S : fh_S) (h : fh_H) (a : Nat) (x1 : Int32) (x2 : Int32) (x3 : Int32) : Option ((Nat ⊕ Int32) × fh_H) :=
    fh_bx (z_X11_settled S h a x1) (fun r1 h2 => fh_b1 r1 (fun j4 => fh_bx (z_X11_settled S h2 a x2) (fun r5 h6 => fh_b1 r5 (fun j8 => if x3 = 0 then (fh_ck (fh_kq S j4 6) (fh_ck (fh_kq S j8 6) (fh_b1 (z_X11_tailsAlike S h6 j4 j8) (fun r12 => fh_b1 (z_X11_partOfPair r12 x3) (fun r14 => some (Sum.inr r14, h6)))))) else (if x3 = (1 : Int32) then (fh_ck (fh_kq S j4 6) (fh_ck (fh_kq S j8 6) (fh_b1 (z_X11_tailsAlike S h6 j4 j8) (fun r19 => fh_b1 (z_X11_partOfPair r19 x3) (fun r21 => some (Sum.inr r21, h6)))))) else (some (Sum.inl 1, h6)))))))
set_option maxHeartbeats 4000000 in
set_option maxRecDepth 100000 in
theorem k_X11_tails {l : Launch} {S : fh_S} {g : fh_G} {h h' : fh_H} {z : (Nat → Nat) × (Nat → Nat)} (hj : fh_inj S g) {a : Nat} {x1 : Int32} {x2 : Int32} {x3 : Int32} {r : (Nat ⊕ Int32)} (hlt : l.stackTraces = false) (ha : fh_kq S a 11 = true) (hsp : z_X11_tails S h a x1 x2 x3 = some (r, h')) : fx_Mx l yX11_tails cX11_tails 6 (some .int) 7 3 S g z [.ref (g.2.2 a), .int x1, .int x2, .int x3] h (fx_oi r) h' := by
  unfold z_X11_tails at hsp
  refine fz_headX (own := RX11) (by decide) rfl hj (Nat.le_of_ble_eq_true rfl) ?_
  intro p e s m below meth c ls C EX hno hr hlocks hR hl
  have hl : lv_has ls 6 [(0, .ref (g.2.2 a)), (1, .int x1), (2, .int x2), (3, .int x3)] := hl
  have hx := C.1.1
  have hb := C.1.2.1
  refine lv_aload_n hx hb dX11_tails_0 rfl (lv_at hl 0 rfl) ?_
  refine lv_iload_n hx hb dX11_tails_1 rfl (lv_at hl 1 rfl) ?_
  rcases fr_bx hsp with ⟨r1, h2, E3, hsp⟩ | ⟨r1, h2, E3, hsp⟩
  · obtain ⟨e1, e2⟩ := fr_s2 hsp
    exact fz_xVo (k := r1) (rest := []) C EX hR (k_X11_settled C.2.2 hlt ha E3) Y_X11_settled YV_X11_settled Lk_RX11_127 (fz_rv C hR ha ⟨_, _, rfl, by decide⟩) rfl hl.1 ⟨Nat.le_of_ble_eq_true rfl, Nat.le_of_ble_eq_true rfl⟩ rfl (Nat.le_of_ble_eq_true rfl) ⟨Nat.le_of_ble_eq_true rfl, Nat.le_of_ble_eq_true rfl⟩ dX11_tails_2 hno hlocks (congrArg fx_oi e1) e2 (Nat.le_of_ble_eq_true rfl) (Nat.le_of_ble_eq_true rfl)
  refine fz_xVr (rest := []) (st1 := [va_rf (Option.map g.2.2 r1)]) C EX hR (k_X11_settled C.2.2 hlt ha E3) Y_X11_settled YV_X11_settled Lk_RX11_127 (fz_rv C hR ha ⟨_, _, rfl, by decide⟩) rfl hl.1 ⟨Nat.le_of_ble_eq_true rfl, Nat.le_of_ble_eq_true rfl⟩ rfl (Nat.le_of_ble_eq_true rfl) ⟨Nat.le_of_ble_eq_true rfl, Nat.le_of_ble_eq_true rfl⟩ rfl dX11_tails_2 (fun H locs hR => ?_)
  obtain ⟨j4, ej4, hq⟩ := fr_b1 hsp
  subst ej4
  have hsp := hq
  refine W.eq (g2 := F0 m 5 ls [.ref (g.2.2 j4)]) rfl ?_
  refine lv_astore (lv' := [(4, .ref (g.2.2 j4)), (0, .ref (g.2.2 a)), (1, .int x1), (2, .int x2), (3, .int x3)]) hx hb dX11_tails_5 hl (by decide) rfl (fun ls hl => ?_)
  refine lv_aload_n hx hb dX11_tails_7 rfl (lv_at hl 1 rfl) ?_
  refine lv_iload_n hx hb dX11_tails_8 rfl (lv_at hl 3 rfl) ?_
  rcases fr_bx hsp with ⟨r5, h6, E7, hsp⟩ | ⟨r5, h6, E7, hsp⟩
  · obtain ⟨e1, e2⟩ := fr_s2 hsp
    exact fz_xVo (k := r5) (rest := []) C EX hR (k_X11_settled C.2.2 hlt ha E7) Y_X11_settled YV_X11_settled Lk_RX11_127 (fz_rv C hR ha ⟨_, _, rfl, by decide⟩) rfl hl.1 ⟨Nat.le_of_ble_eq_true rfl, Nat.le_of_ble_eq_true rfl⟩ rfl (Nat.le_of_ble_eq_true rfl) ⟨Nat.le_of_ble_eq_true rfl, Nat.le_of_ble_eq_true rfl⟩ dX11_tails_9 hno hlocks (congrArg fx_oi e1) e2 (Nat.le_of_ble_eq_true rfl) (Nat.le_of_ble_eq_true rfl)
  refine fz_xVr (rest := []) (st1 := [va_rf (Option.map g.2.2 r5)]) C EX hR (k_X11_settled C.2.2 hlt ha E7) Y_X11_settled YV_X11_settled Lk_RX11_127 (fz_rv C hR ha ⟨_, _, rfl, by decide⟩) rfl hl.1 ⟨Nat.le_of_ble_eq_true rfl, Nat.le_of_ble_eq_true rfl⟩ rfl (Nat.le_of_ble_eq_true rfl) ⟨Nat.le_of_ble_eq_true rfl, Nat.le_of_ble_eq_true rfl⟩ rfl dX11_tails_9 (fun H locs hR => ?_)
  obtain ⟨j8, ej8, hq⟩ := fr_b1 hsp
  subst ej8
  have hsp := hq
  refine W.eq (g2 := F0 m 12 ls [.ref (g.2.2 j8)]) rfl ?_
  refine lv_astore (lv' := [(5, .ref (g.2.2 j8)), (4, .ref (g.2.2 j4)), (0, .ref (g.2.2 a)), (1, .int x1), (2, .int x2), (3, .int x3)]) hx hb dX11_tails_12 hl (by decide) rfl (fun ls hl => ?_)
  refine lv_iload_n hx hb dX11_tails_14 rfl (lv_at hl 5 rfl) ?_
  refine lv_if_eq (tgt := 34) hx hb dX11_tails_15 (by decide) (fun c9 => ?_) (fun c9 => ?_)
  · rw [if_pos c9] at hsp
    refine lv_aload hx hb dX11_tails_34 (lv_at hl 1 rfl) ?_
    refine lv_aload hx hb dX11_tails_36 (lv_at hl 0 rfl) ?_
    obtain ⟨hk10, hsp⟩ := fr_ck hsp
    obtain ⟨hk11, hsp⟩ := fr_ck hsp
    obtain ⟨r12, E13, hsp⟩ := fr_b1 hsp
    refine fq_callS (rest := []) (st1 := [.int r12]) C hR (k_X11_tailsAlike C.2.2 hk10 hk11 E13) Y_X11_tailsAlike YS_X11_tailsAlike Lk_RX11_271 rfl hl.1 ⟨Nat.le_of_ble_eq_true rfl, Nat.le_of_ble_eq_true rfl⟩ rfl (Nat.le_of_ble_eq_true rfl) ⟨Nat.le_of_ble_eq_true rfl, Nat.le_of_ble_eq_true rfl⟩ rfl dX11_tails_38 (fun H locs hR => ?_)
    refine lv_iload_n hx hb dX11_tails_41 rfl (lv_at hl 5 rfl) ?_
    obtain ⟨r14, E15, hsp⟩ := fr_b1 hsp
    refine fq_callS (rest := []) (st1 := [.int r14]) C hR (k_X11_partOfPair C.2.2 E15) Y_X11_partOfPair YS_X11_partOfPair Lk_RX11_265 rfl hl.1 ⟨Nat.le_of_ble_eq_true rfl, Nat.le_of_ble_eq_true rfl⟩ rfl (Nat.le_of_ble_eq_true rfl) ⟨Nat.le_of_ble_eq_true rfl, Nat.le_of_ble_eq_true rfl⟩ rfl dX11_tails_42 (fun H locs hR => ?_)
    obtain ⟨e1, e2⟩ := fr_s2 hsp
    exact fz_iret C hr hlocks hR e1 e2 (Nat.le_of_ble_eq_true rfl) (Nat.le_of_ble_eq_true rfl) dX11_tails_45
  · rw [if_neg c9] at hsp
    refine lv_iload_n hx hb dX11_tails_18 rfl (lv_at hl 5 rfl) ?_
    refine lv_iconst (v := 1) hx hb dX11_tails_19 (by decide) ?_
    refine lv_icmp_eq (tgt := 34) hx hb dX11_tails_20 (by decide) (fun c16 => ?_) (fun c16 => ?_)
    · rw [if_pos c16] at hsp
      refine lv_aload hx hb dX11_tails_34 (lv_at hl 1 rfl) ?_
      refine lv_aload hx hb dX11_tails_36 (lv_at hl 0 rfl) ?_
      obtain ⟨hk17, hsp⟩ := fr_ck hsp
      obtain ⟨hk18, hsp⟩ := fr_ck hsp
      obtain ⟨r19, E20, hsp⟩ := fr_b1 hsp
      refine fq_callS (rest := []) (st1 := [.int r19]) C hR (k_X11_tailsAlike C.2.2 hk17 hk18 E20) Y_X11_tailsAlike YS_X11_tailsAlike Lk_RX11_271 rfl hl.1 ⟨Nat.le_of_ble_eq_true rfl, Nat.le_of_ble_eq_true rfl⟩ rfl (Nat.le_of_ble_eq_true rfl) ⟨Nat.le_of_ble_eq_true rfl, Nat.le_of_ble_eq_true rfl⟩ rfl dX11_tails_38 (fun H locs hR => ?_)
      refine lv_iload_n hx hb dX11_tails_41 rfl (lv_at hl 5 rfl) ?_
      obtain ⟨r21, E22, hsp⟩ := fr_b1 hsp
      refine fq_callS (rest := []) (st1 := [.int r21]) C hR (k_X11_partOfPair C.2.2 E22) Y_X11_partOfPair YS_X11_partOfPair Lk_RX11_265 rfl hl.1 ⟨Nat.le_of_ble_eq_true rfl, Nat.le_of_ble_eq_true rfl⟩ rfl (Nat.le_of_ble_eq_true rfl) ⟨Nat.le_of_ble_eq_true rfl, Nat.le_of_ble_eq_true rfl⟩ rfl dX11_tails_42 (fun H locs hR => ?_)
      obtain ⟨e1, e2⟩ := fr_s2 hsp
      exact fz_iret C hr hlocks hR e1 e2 (Nat.le_of_ble_eq_true rfl) (Nat.le_of_ble_eq_true rfl) dX11_tails_45
    · rw [if_neg c16] at hsp
      obtain ⟨e1, e2⟩ := fr_s2 hsp
      exact fz_throwW (is := 269) (text := "no such part of tails") 1 (Or.inr rfl) C EX hlt hno hlocks hR (congrArg fx_oi e1) e2 (List.mem_of_getElem? (i := 7) rfl) hl.1 ⟨Nat.le_of_ble_eq_true rfl, Nat.le_of_ble_eq_true rfl, Nat.le_of_ble_eq_true rfl⟩ ⟨Nat.le_of_ble_eq_true rfl, Nat.le_of_ble_eq_true rfl⟩ (Nat.le_of_ble_eq_true rfl) (Nat.le_of_ble_eq_true rfl) dX11_tails_23 dX11_tails_26 dX11_tails_27 dX11_tails_30 dX11_tails_33

/-! TermRows.floor(II)I -/
def z_X11_floor (S : fh_S) (h : fh_H) (a : Nat) (x1 : Int32) (x2 : Int32) : Option ((Nat ⊕ Int32) × fh_H) :=
    fh_bx (z_X11_settled S h a x1) (fun r1 h2 => fh_b1 r1 (fun j4 => if x2 < (1 : Int32) then (some (Sum.inl 0, h2)) else (if x2 ≤ (9999 : Int32) then (fh_b1 (h2.2.2 a 3) (fun j7 => fh_ck (fh_kq S j7 5) (fh_b1 (z_X5_startSingle S h2 j7 (some j4) x2 (0 : Int32) (0 : Int32) (1 : Int32)) (fun h10 => fh_b2 (z_X11_triedTerm S h10 a (0 : Int32)) (fun r12 h13 => some (Sum.inr r12, h13)))))) else (some (Sum.inl 0, h2)))))
set_option maxHeartbeats 4000000 in
set_option maxRecDepth 100000 in
theorem k_X11_floor {l : Launch} {S : fh_S} {g : fh_G} {h h' : fh_H} {z : (Nat → Nat) × (Nat → Nat)} (hj : fh_inj S g) {a : Nat} {x1 : Int32} {x2 : Int32} {r : (Nat ⊕ Int32)} (hlt : l.stackTraces = false) (ha : fh_kq S a 11 = true) (hsp : z_X11_floor S h a x1 x2 = some (r, h')) : fx_Mx l yX11_floor cX11_floor 4 (some .int) 7 2 S g z [.ref (g.2.2 a), .int x1, .int x2] h (fx_oi r) h' := by
  unfold z_X11_floor at hsp
  refine fz_headX (own := RX11) (by decide) rfl hj (Nat.le_of_ble_eq_true rfl) ?_
  intro p e s m below meth c ls C EX hno hr hlocks hR hl
  have hl : lv_has ls 4 [(0, .ref (g.2.2 a)), (1, .int x1), (2, .int x2)] := hl
  have hx := C.1.1
  have hb := C.1.2.1
  refine lv_aload_n hx hb dX11_floor_0 rfl (lv_at hl 0 rfl) ?_
  refine lv_iload_n hx hb dX11_floor_1 rfl (lv_at hl 1 rfl) ?_
  rcases fr_bx hsp with ⟨r1, h2, E3, hsp⟩ | ⟨r1, h2, E3, hsp⟩
  · obtain ⟨e1, e2⟩ := fr_s2 hsp
    exact fz_xVo (k := r1) (rest := []) C EX hR (k_X11_settled C.2.2 hlt ha E3) Y_X11_settled YV_X11_settled Lk_RX11_127 (fz_rv C hR ha ⟨_, _, rfl, by decide⟩) rfl hl.1 ⟨Nat.le_of_ble_eq_true rfl, Nat.le_of_ble_eq_true rfl⟩ rfl (Nat.le_of_ble_eq_true rfl) ⟨Nat.le_of_ble_eq_true rfl, Nat.le_of_ble_eq_true rfl⟩ dX11_floor_2 hno hlocks (congrArg fx_oi e1) e2 (Nat.le_of_ble_eq_true rfl) (Nat.le_of_ble_eq_true rfl)
  refine fz_xVr (rest := []) (st1 := [va_rf (Option.map g.2.2 r1)]) C EX hR (k_X11_settled C.2.2 hlt ha E3) Y_X11_settled YV_X11_settled Lk_RX11_127 (fz_rv C hR ha ⟨_, _, rfl, by decide⟩) rfl hl.1 ⟨Nat.le_of_ble_eq_true rfl, Nat.le_of_ble_eq_true rfl⟩ rfl (Nat.le_of_ble_eq_true rfl) ⟨Nat.le_of_ble_eq_true rfl, Nat.le_of_ble_eq_true rfl⟩ rfl dX11_floor_2 (fun H locs hR => ?_)
  obtain ⟨j4, ej4, hq⟩ := fr_b1 hsp
  subst ej4
  have hsp := hq
  refine W.eq (g2 := F0 m 5 ls [.ref (g.2.2 j4)]) rfl ?_
  refine lv_astore_n (lv' := [(3, .ref (g.2.2 j4)), (0, .ref (g.2.2 a)), (1, .int x1), (2, .int x2)]) hx hb dX11_floor_5 rfl hl (by decide) rfl (fun ls hl => ?_)
  refine lv_iload_n hx hb dX11_floor_6 rfl (lv_at hl 3 rfl) ?_
  refine lv_iconst (v := 1) hx hb dX11_floor_7 (by decide) ?_
  refine lv_icmp_lt (tgt := 18) hx hb dX11_floor_8 (by decide) (fun c5 => ?_) (fun c5 => ?_)
  · rw [if_pos c5] at hsp
    obtain ⟨e1, e2⟩ := fr_s2 hsp
    exact fz_throwW (is := 274) (text := "n isn't 1 to 9999") 0 (Or.inl rfl) C EX hlt hno hlocks hR (congrArg fx_oi e1) e2 (List.mem_of_getElem? (i := 8) rfl) hl.1 ⟨Nat.le_of_ble_eq_true rfl, Nat.le_of_ble_eq_true rfl, Nat.le_of_ble_eq_true rfl⟩ ⟨Nat.le_of_ble_eq_true rfl, Nat.le_of_ble_eq_true rfl⟩ (Nat.le_of_ble_eq_true rfl) (Nat.le_of_ble_eq_true rfl) dX11_floor_18 dX11_floor_21 dX11_floor_22 dX11_floor_25 dX11_floor_28
  · rw [if_neg c5] at hsp
    refine lv_iload_n hx hb dX11_floor_11 rfl (lv_at hl 3 rfl) ?_
    refine lv_sipush (v := 9999) hx hb dX11_floor_12 (by decide) ?_
    refine lv_icmp_le (tgt := 29) hx hb dX11_floor_15 (by decide) (fun c6 => ?_) (fun c6 => ?_)
    · rw [if_pos c6] at hsp
      refine lv_aload_n hx hb dX11_floor_29 rfl (lv_at hl 1 rfl) ?_
      obtain ⟨j7, hv8, hsp⟩ := fr_b1 hsp
      refine fr_getr C hR ha Fg_RX11_32 rfl hv8 dX11_floor_30 ?_
      refine lv_aload_n hx hb dX11_floor_33 rfl (lv_at hl 0 rfl) ?_
      refine lv_iload_n hx hb dX11_floor_34 rfl (lv_at hl 3 rfl) ?_
      refine lv_iconst (v := 0) hx hb dX11_floor_35 (by decide) ?_
      refine lv_iconst (v := 0) hx hb dX11_floor_36 (by decide) ?_
      refine lv_iconst (v := 1) hx hb dX11_floor_37 (by decide) ?_
      obtain ⟨hk9, hsp⟩ := fr_ck hsp
      obtain ⟨h10, E11, hsp⟩ := fr_b1 hsp
      refine fq_callV (rest := []) (st1 := []) C hR (k_X5_startSingle C.2.2 hk9 E11) Y_X5_startSingle YV_X5_startSingle Lk_RX11_276 hk9 ⟨_, _, rfl, by decide⟩ rfl hl.1 ⟨Nat.le_of_ble_eq_true rfl, Nat.le_of_ble_eq_true rfl⟩ rfl (Nat.le_of_ble_eq_true rfl) ⟨Nat.le_of_ble_eq_true rfl, Nat.le_of_ble_eq_true rfl⟩ rfl dX11_floor_38 (fun H locs hR => ?_)
      refine lv_aload_n hx hb dX11_floor_41 rfl (lv_at hl 1 rfl) ?_
      refine lv_iconst (v := 0) hx hb dX11_floor_42 (by decide) ?_
      obtain ⟨r12, h13, E14, hsp⟩ := fr_b2 hsp
      refine fq_callV (rest := []) (st1 := [.int r12]) C hR (k_X11_triedTerm C.2.2 ha E14) Y_X11_triedTerm YV_X11_triedTerm Lk_RX11_280 ha ⟨_, _, rfl, by decide⟩ rfl hl.1 ⟨Nat.le_of_ble_eq_true rfl, Nat.le_of_ble_eq_true rfl⟩ rfl (Nat.le_of_ble_eq_true rfl) ⟨Nat.le_of_ble_eq_true rfl, Nat.le_of_ble_eq_true rfl⟩ rfl dX11_floor_43 (fun H locs hR => ?_)
      obtain ⟨e1, e2⟩ := fr_s2 hsp
      exact fz_iret C hr hlocks hR e1 e2 (Nat.le_of_ble_eq_true rfl) (Nat.le_of_ble_eq_true rfl) dX11_floor_46
    · rw [if_neg c6] at hsp
      obtain ⟨e1, e2⟩ := fr_s2 hsp
      exact fz_throwW (is := 274) (text := "n isn't 1 to 9999") 0 (Or.inl rfl) C EX hlt hno hlocks hR (congrArg fx_oi e1) e2 (List.mem_of_getElem? (i := 8) rfl) hl.1 ⟨Nat.le_of_ble_eq_true rfl, Nat.le_of_ble_eq_true rfl, Nat.le_of_ble_eq_true rfl⟩ ⟨Nat.le_of_ble_eq_true rfl, Nat.le_of_ble_eq_true rfl⟩ (Nat.le_of_ble_eq_true rfl) (Nat.le_of_ble_eq_true rfl) dX11_floor_18 dX11_floor_21 dX11_floor_22 dX11_floor_25 dX11_floor_28

/-! TermRows.would(IIIIII)I -/
def z_X11_would (S : fh_S) (h : fh_H) (a : Nat) (x1 : Int32) (x2 : Int32) (x3 : Int32) (x4 : Int32) (x5 : Int32) (x6 : Int32) : Option ((Nat ⊕ Int32) × fh_H) :=
    fh_bx (z_X11_settled S h a x1) (fun r1 h2 => fh_b1 r1 (fun j4 => if x2 < 0 then (some (Sum.inl 1, h2)) else (if x2 < (60 : Int32) then (fh_b1 (z_X11_fitsSingle x3 x4 x5 x6) (fun r7 => if r7 = 0 then (some (Sum.inl 0, h2)) else (fh_b1 (h2.2.2 a 3) (fun j10 => fh_ck (fh_kq S j10 5) (fh_b1 (z_X5_startSingle S h2 j10 (some j4) x3 x4 x5 x6) (fun h13 => fh_b2 (z_X11_triedTerm S h13 a x2) (fun r15 h16 => some (Sum.inr r15, h16)))))))) else (some (Sum.inl 1, h2)))))
set_option maxHeartbeats 4000000 in
set_option maxRecDepth 100000 in
theorem k_X11_would {l : Launch} {S : fh_S} {g : fh_G} {h h' : fh_H} {z : (Nat → Nat) × (Nat → Nat)} (hj : fh_inj S g) {a : Nat} {x1 : Int32} {x2 : Int32} {x3 : Int32} {x4 : Int32} {x5 : Int32} {x6 : Int32} {r : (Nat ⊕ Int32)} (hlt : l.stackTraces = false) (ha : fh_kq S a 11 = true) (hsp : z_X11_would S h a x1 x2 x3 x4 x5 x6 = some (r, h')) : fx_Mx l yX11_would cX11_would 8 (some .int) 7 2 S g z [.ref (g.2.2 a), .int x1, .int x2, .int x3, .int x4, .int x5, .int x6] h (fx_oi r) h' := by
  unfold z_X11_would at hsp
  refine fz_headX (own := RX11) (by decide) rfl hj (Nat.le_of_ble_eq_true rfl) ?_
  intro p e s m below meth c ls C EX hno hr hlocks hR hl
  have hl : lv_has ls 8 [(0, .ref (g.2.2 a)), (1, .int x1), (2, .int x2), (3, .int x3), (4, .int x4), (5, .int x5), (6, .int x6)] := hl
  have hx := C.1.1
  have hb := C.1.2.1
  refine lv_aload_n hx hb dX11_would_0 rfl (lv_at hl 0 rfl) ?_
  refine lv_iload_n hx hb dX11_would_1 rfl (lv_at hl 1 rfl) ?_
  rcases fr_bx hsp with ⟨r1, h2, E3, hsp⟩ | ⟨r1, h2, E3, hsp⟩
  · obtain ⟨e1, e2⟩ := fr_s2 hsp
    exact fz_xVo (k := r1) (rest := []) C EX hR (k_X11_settled C.2.2 hlt ha E3) Y_X11_settled YV_X11_settled Lk_RX11_127 (fz_rv C hR ha ⟨_, _, rfl, by decide⟩) rfl hl.1 ⟨Nat.le_of_ble_eq_true rfl, Nat.le_of_ble_eq_true rfl⟩ rfl (Nat.le_of_ble_eq_true rfl) ⟨Nat.le_of_ble_eq_true rfl, Nat.le_of_ble_eq_true rfl⟩ dX11_would_2 hno hlocks (congrArg fx_oi e1) e2 (Nat.le_of_ble_eq_true rfl) (Nat.le_of_ble_eq_true rfl)
  refine fz_xVr (rest := []) (st1 := [va_rf (Option.map g.2.2 r1)]) C EX hR (k_X11_settled C.2.2 hlt ha E3) Y_X11_settled YV_X11_settled Lk_RX11_127 (fz_rv C hR ha ⟨_, _, rfl, by decide⟩) rfl hl.1 ⟨Nat.le_of_ble_eq_true rfl, Nat.le_of_ble_eq_true rfl⟩ rfl (Nat.le_of_ble_eq_true rfl) ⟨Nat.le_of_ble_eq_true rfl, Nat.le_of_ble_eq_true rfl⟩ rfl dX11_would_2 (fun H locs hR => ?_)
  obtain ⟨j4, ej4, hq⟩ := fr_b1 hsp
  subst ej4
  have hsp := hq
  refine W.eq (g2 := F0 m 5 ls [.ref (g.2.2 j4)]) rfl ?_
  refine lv_astore (lv' := [(7, .ref (g.2.2 j4)), (0, .ref (g.2.2 a)), (1, .int x1), (2, .int x2), (3, .int x3), (4, .int x4), (5, .int x5), (6, .int x6)]) hx hb dX11_would_5 hl (by decide) rfl (fun ls hl => ?_)
  refine lv_iload_n hx hb dX11_would_7 rfl (lv_at hl 3 rfl) ?_
  refine lv_if_lt (tgt := 17) hx hb dX11_would_8 (by decide) (fun c5 => ?_) (fun c5 => ?_)
  · rw [if_pos c5] at hsp
    obtain ⟨e1, e2⟩ := fr_s2 hsp
    exact fz_throwW (is := 283) (text := "k isn't 0 to 59") 1 (Or.inr rfl) C EX hlt hno hlocks hR (congrArg fx_oi e1) e2 (List.mem_of_getElem? (i := 9) rfl) hl.1 ⟨Nat.le_of_ble_eq_true rfl, Nat.le_of_ble_eq_true rfl, Nat.le_of_ble_eq_true rfl⟩ ⟨Nat.le_of_ble_eq_true rfl, Nat.le_of_ble_eq_true rfl⟩ (Nat.le_of_ble_eq_true rfl) (Nat.le_of_ble_eq_true rfl) dX11_would_17 dX11_would_20 dX11_would_21 dX11_would_24 dX11_would_27
  · rw [if_neg c5] at hsp
    refine lv_iload_n hx hb dX11_would_11 rfl (lv_at hl 3 rfl) ?_
    refine lv_bipush (v := 60) hx hb dX11_would_12 (by decide) ?_
    refine lv_icmp_lt (tgt := 28) hx hb dX11_would_14 (by decide) (fun c6 => ?_) (fun c6 => ?_)
    · rw [if_pos c6] at hsp
      refine lv_iload_n hx hb dX11_would_28 rfl (lv_at hl 4 rfl) ?_
      refine lv_iload hx hb dX11_would_29 (lv_at hl 5 rfl) ?_
      refine lv_iload hx hb dX11_would_31 (lv_at hl 6 rfl) ?_
      refine lv_iload hx hb dX11_would_33 (lv_at hl 7 rfl) ?_
      obtain ⟨r7, E8, hsp⟩ := fr_b1 hsp
      refine fq_callS (rest := []) (st1 := [.int r7]) C hR (k_X11_fitsSingle C.2.2 E8) Y_X11_fitsSingle YS_X11_fitsSingle Lk_RX11_141 rfl hl.1 ⟨Nat.le_of_ble_eq_true rfl, Nat.le_of_ble_eq_true rfl⟩ rfl (Nat.le_of_ble_eq_true rfl) ⟨Nat.le_of_ble_eq_true rfl, Nat.le_of_ble_eq_true rfl⟩ rfl dX11_would_35 (fun H locs hR => ?_)
      refine lv_if_ne (tgt := 52) hx hb dX11_would_38 (by decide) (fun c9 => ?_) (fun c9 => ?_)
      · rw [if_neg c9] at hsp
        refine lv_aload_n hx hb dX11_would_52 rfl (lv_at hl 1 rfl) ?_
        obtain ⟨j10, hv11, hsp⟩ := fr_b1 hsp
        refine fr_getr C hR ha Fg_RX11_32 rfl hv11 dX11_would_53 ?_
        refine lv_aload hx hb dX11_would_56 (lv_at hl 0 rfl) ?_
        refine lv_iload_n hx hb dX11_would_58 rfl (lv_at hl 4 rfl) ?_
        refine lv_iload hx hb dX11_would_59 (lv_at hl 5 rfl) ?_
        refine lv_iload hx hb dX11_would_61 (lv_at hl 6 rfl) ?_
        refine lv_iload hx hb dX11_would_63 (lv_at hl 7 rfl) ?_
        obtain ⟨hk12, hsp⟩ := fr_ck hsp
        obtain ⟨h13, E14, hsp⟩ := fr_b1 hsp
        refine fq_callV (rest := []) (st1 := []) C hR (k_X5_startSingle C.2.2 hk12 E14) Y_X5_startSingle YV_X5_startSingle Lk_RX11_276 hk12 ⟨_, _, rfl, by decide⟩ rfl hl.1 ⟨Nat.le_of_ble_eq_true rfl, Nat.le_of_ble_eq_true rfl⟩ rfl (Nat.le_of_ble_eq_true rfl) ⟨Nat.le_of_ble_eq_true rfl, Nat.le_of_ble_eq_true rfl⟩ rfl dX11_would_65 (fun H locs hR => ?_)
        refine lv_aload_n hx hb dX11_would_68 rfl (lv_at hl 1 rfl) ?_
        refine lv_iload_n hx hb dX11_would_69 rfl (lv_at hl 3 rfl) ?_
        obtain ⟨r15, h16, E17, hsp⟩ := fr_b2 hsp
        refine fq_callV (rest := []) (st1 := [.int r15]) C hR (k_X11_triedTerm C.2.2 ha E17) Y_X11_triedTerm YV_X11_triedTerm Lk_RX11_280 ha ⟨_, _, rfl, by decide⟩ rfl hl.1 ⟨Nat.le_of_ble_eq_true rfl, Nat.le_of_ble_eq_true rfl⟩ rfl (Nat.le_of_ble_eq_true rfl) ⟨Nat.le_of_ble_eq_true rfl, Nat.le_of_ble_eq_true rfl⟩ rfl dX11_would_70 (fun H locs hR => ?_)
        obtain ⟨e1, e2⟩ := fr_s2 hsp
        exact fz_iret C hr hlocks hR e1 e2 (Nat.le_of_ble_eq_true rfl) (Nat.le_of_ble_eq_true rfl) dX11_would_73
      · rw [if_pos c9] at hsp
        obtain ⟨e1, e2⟩ := fr_s2 hsp
        exact fz_throwW (is := 285) (text := "no such single") 0 (Or.inl rfl) C EX hlt hno hlocks hR (congrArg fx_oi e1) e2 (List.mem_of_getElem? (i := 10) rfl) hl.1 ⟨Nat.le_of_ble_eq_true rfl, Nat.le_of_ble_eq_true rfl, Nat.le_of_ble_eq_true rfl⟩ ⟨Nat.le_of_ble_eq_true rfl, Nat.le_of_ble_eq_true rfl⟩ (Nat.le_of_ble_eq_true rfl) (Nat.le_of_ble_eq_true rfl) dX11_would_41 dX11_would_44 dX11_would_45 dX11_would_48 dX11_would_51
    · rw [if_neg c6] at hsp
      obtain ⟨e1, e2⟩ := fr_s2 hsp
      exact fz_throwW (is := 283) (text := "k isn't 0 to 59") 1 (Or.inr rfl) C EX hlt hno hlocks hR (congrArg fx_oi e1) e2 (List.mem_of_getElem? (i := 9) rfl) hl.1 ⟨Nat.le_of_ble_eq_true rfl, Nat.le_of_ble_eq_true rfl, Nat.le_of_ble_eq_true rfl⟩ ⟨Nat.le_of_ble_eq_true rfl, Nat.le_of_ble_eq_true rfl⟩ (Nat.le_of_ble_eq_true rfl) (Nat.le_of_ble_eq_true rfl) dX11_would_17 dX11_would_20 dX11_would_21 dX11_would_24 dX11_would_27

/-! TermRows.often(II)I -/
def z_X11_often_b12 (S : fh_S) (a : Nat) : Nat → fh_H → Int32 → Nat → Int32 → Int32 → Option ((Nat ⊕ Int32) × fh_H)
  | 0, _, _, _, _, _ => none
  | n + 1, h, y2, y3, y4, y5 =>
    fh_ck (fh_kq S y3 6) (if (h.1 y3 6) ≤ y5 then (some (Sum.inr y4, h)) else (fh_b1 (z_X6_termAt S h y3 y5) (fun r3 => if r3 = y2 then (fh_let (y4 + 1) (fun v7 => fh_let (y5 + 1) (fun v8 => z_X11_often_b12 S a n h y2 y3 v7 v8))) else (fh_let (y5 + 1) (fun v6 => z_X11_often_b12 S a n h y2 y3 y4 v6)))))
def z_X11_often (S : fh_S) (h : fh_H) (a : Nat) (x1 : Int32) (x2 : Int32) : Option ((Nat ⊕ Int32) × fh_H) :=
    fh_bx (z_X11_settled S h a x1) (fun r1 h2 => fh_b1 r1 (fun j4 => z_X11_often_b12 S a 20000 h2 x2 j4 (0 : Int32) (1 : Int32)))
set_option maxHeartbeats 4000000 in
set_option maxRecDepth 100000 in
theorem k_X11_often {l : Launch} {S : fh_S} {g : fh_G} {h h' : fh_H} {z : (Nat → Nat) × (Nat → Nat)} (hj : fh_inj S g) {a : Nat} {x1 : Int32} {x2 : Int32} {r : (Nat ⊕ Int32)} (hlt : l.stackTraces = false) (ha : fh_kq S a 11 = true) (hsp : z_X11_often S h a x1 x2 = some (r, h')) : fx_Mx l yX11_often cX11_often 6 (some .int) 7 1 S g z [.ref (g.2.2 a), .int x1, .int x2] h (fx_oi r) h' := by
  unfold z_X11_often at hsp
  refine fz_headX (own := RX11) (by decide) rfl hj (Nat.le_of_ble_eq_true rfl) ?_
  intro p e s m below meth c ls C EX hno hr hlocks hR hl
  have hl : lv_has ls 6 [(0, .ref (g.2.2 a)), (1, .int x1), (2, .int x2)] := hl
  have hx := C.1.1
  have hb := C.1.2.1
  have hb_12 : ∀ (n : Nat) (h : fh_H) (y2 : Int32) (y3 : Nat) (y4 : Int32) (y5 : Int32) (H : Heap) (locs : List Loc) (ls : Array Slot), z_X11_often_b12 S a n h y2 y3 y4 y5 = some (r, h') → fh_R S g s.heap h H locs → lv_has ls 6 [(2, .int y2), (3, .ref (g.2.2 y3)), (4, .int y4), (5, .int y5)] → fx_Wk p l e 7 1 1 s m [.ref (g.2.2 a), .int x1, .int x2] below meth c S g (fx_oi r) h' H locs (F0 m 12 ls []) := by
    intro n
    induction n with
    | zero => intro h y2 y3 y4 y5 H locs ls hsp; cases hsp
    | succ n ih =>
      intro h y2 y3 y4 y5 H locs ls hsp hR hl
      rw [z_X11_often_b12] at hsp
      refine lv_iload hx hb dX11_often_12 (lv_at hl 3 rfl) ?_
      refine lv_aload_n hx hb dX11_often_14 rfl (lv_at hl 1 rfl) ?_
      obtain ⟨hk1, hsp⟩ := fr_ck hsp
      refine fr_geti C hR hk1 Fg_RX11_175 rfl dX11_often_15 ?_
      refine lv_icmp_ge (tgt := 40) hx hb dX11_often_18 (by decide) (fun c2 => ?_) (fun c2 => ?_)
      · rw [if_pos c2] at hsp
        refine lv_iload hx hb dX11_often_40 (lv_at hl 2 rfl) ?_
        obtain ⟨e1, e2⟩ := fr_s2 hsp
        exact fz_iret C hr hlocks hR e1 e2 (Nat.le_of_ble_eq_true rfl) (Nat.le_of_ble_eq_true rfl) dX11_often_42
      · rw [if_neg c2] at hsp
        refine lv_aload_n hx hb dX11_often_21 rfl (lv_at hl 1 rfl) ?_
        refine lv_iload hx hb dX11_often_22 (lv_at hl 3 rfl) ?_
        obtain ⟨r3, E4, hsp⟩ := fr_b1 hsp
        refine fq_callV (rest := []) (st1 := [.int r3]) C hR (k_X6_termAt C.2.2 hk1 E4) Y_X6_termAt YV_X6_termAt Lk_RX11_200 hk1 ⟨_, _, rfl, by decide⟩ rfl hl.1 ⟨Nat.le_of_ble_eq_true rfl, Nat.le_of_ble_eq_true rfl⟩ rfl (Nat.le_of_ble_eq_true rfl) ⟨Nat.le_of_ble_eq_true rfl, Nat.le_of_ble_eq_true rfl⟩ rfl dX11_often_24 (fun H locs hR => ?_)
        refine lv_iload_n hx hb dX11_often_27 rfl (lv_at hl 0 rfl) ?_
        refine lv_icmp_ne (tgt := 34) hx hb dX11_often_28 (by decide) (fun c5 => ?_) (fun c5 => ?_)
        · rw [if_neg c5] at hsp
          obtain ⟨v6, ev6⟩ : ∃ z : Int32, z = y5 + 1 := ⟨_, rfl⟩
          have hsp := fr_let ev6 hsp
          refine lv_iinc (v := v6) (lv' := [(5, .int v6), (2, .int y2), (3, .ref (g.2.2 y3)), (4, .int y4)]) hx hb dX11_often_34 hl (k := 3) rfl (by rw [ev6]; rfl) (by decide) rfl (fun ls hl => ?_)
          refine lv_goto (tgt := 12) hx hb dX11_often_37 (by decide) ?_
          refine W.widen (k := 1) (n := 6 * 1) (Nat.le_of_ble_eq_true rfl) (Nat.le_of_ble_eq_true rfl) ?_
          exact ih h y2 y3 y4 v6 _ _ _ hsp hR (lv_sub hl [1, 2, 3, 0] rfl)
        · rw [if_pos c5] at hsp
          obtain ⟨v7, ev7⟩ : ∃ z : Int32, z = y4 + 1 := ⟨_, rfl⟩
          have hsp := fr_let ev7 hsp
          refine lv_iinc (v := v7) (lv' := [(4, .int v7), (2, .int y2), (3, .ref (g.2.2 y3)), (5, .int y5)]) hx hb dX11_often_31 hl (k := 2) rfl (by rw [ev7]; rfl) (by decide) rfl (fun ls hl => ?_)
          obtain ⟨v8, ev8⟩ : ∃ z : Int32, z = y5 + 1 := ⟨_, rfl⟩
          have hsp := fr_let ev8 hsp
          refine lv_iinc (v := v8) (lv' := [(5, .int v8), (4, .int v7), (2, .int y2), (3, .ref (g.2.2 y3))]) hx hb dX11_often_34 hl (k := 3) rfl (by rw [ev8]; rfl) (by decide) rfl (fun ls hl => ?_)
          refine lv_goto (tgt := 12) hx hb dX11_often_37 (by decide) ?_
          refine W.widen (k := 1) (n := 6 * 1) (Nat.le_of_ble_eq_true rfl) (Nat.le_of_ble_eq_true rfl) ?_
          exact ih h y2 y3 v7 v8 _ _ _ hsp hR (lv_sub hl [2, 3, 1, 0] rfl)
  refine lv_aload_n hx hb dX11_often_0 rfl (lv_at hl 0 rfl) ?_
  refine lv_iload_n hx hb dX11_often_1 rfl (lv_at hl 1 rfl) ?_
  rcases fr_bx hsp with ⟨r1, h2, E3, hsp⟩ | ⟨r1, h2, E3, hsp⟩
  · obtain ⟨e1, e2⟩ := fr_s2 hsp
    exact fz_xVo (k := r1) (rest := []) C EX hR (k_X11_settled C.2.2 hlt ha E3) Y_X11_settled YV_X11_settled Lk_RX11_127 (fz_rv C hR ha ⟨_, _, rfl, by decide⟩) rfl hl.1 ⟨Nat.le_of_ble_eq_true rfl, Nat.le_of_ble_eq_true rfl⟩ rfl (Nat.le_of_ble_eq_true rfl) ⟨Nat.le_of_ble_eq_true rfl, Nat.le_of_ble_eq_true rfl⟩ dX11_often_2 hno hlocks (congrArg fx_oi e1) e2 (Nat.le_of_ble_eq_true rfl) (Nat.le_of_ble_eq_true rfl)
  refine fz_xVr (rest := []) (st1 := [va_rf (Option.map g.2.2 r1)]) C EX hR (k_X11_settled C.2.2 hlt ha E3) Y_X11_settled YV_X11_settled Lk_RX11_127 (fz_rv C hR ha ⟨_, _, rfl, by decide⟩) rfl hl.1 ⟨Nat.le_of_ble_eq_true rfl, Nat.le_of_ble_eq_true rfl⟩ rfl (Nat.le_of_ble_eq_true rfl) ⟨Nat.le_of_ble_eq_true rfl, Nat.le_of_ble_eq_true rfl⟩ rfl dX11_often_2 (fun H locs hR => ?_)
  obtain ⟨j4, ej4, hq⟩ := fr_b1 hsp
  subst ej4
  have hsp := hq
  refine W.eq (g2 := F0 m 5 ls [.ref (g.2.2 j4)]) rfl ?_
  refine lv_astore_n (lv' := [(3, .ref (g.2.2 j4)), (0, .ref (g.2.2 a)), (1, .int x1), (2, .int x2)]) hx hb dX11_often_5 rfl hl (by decide) rfl (fun ls hl => ?_)
  refine lv_iconst (v := 0) hx hb dX11_often_6 (by decide) ?_
  refine lv_istore (lv' := [(4, .int (0 : Int32)), (3, .ref (g.2.2 j4)), (0, .ref (g.2.2 a)), (1, .int x1), (2, .int x2)]) hx hb dX11_often_7 hl (by decide) rfl (fun ls hl => ?_)
  refine lv_iconst (v := 1) hx hb dX11_often_9 (by decide) ?_
  refine lv_istore (lv' := [(5, .int (1 : Int32)), (4, .int (0 : Int32)), (3, .ref (g.2.2 j4)), (0, .ref (g.2.2 a)), (1, .int x1), (2, .int x2)]) hx hb dX11_often_10 hl (by decide) rfl (fun ls hl => ?_)
  refine W.widen (k := 1) (n := 6 * 1) (Nat.le_of_ble_eq_true rfl) (Nat.le_of_ble_eq_true rfl) ?_
  exact hb_12 20000 h2 x2 j4 (0 : Int32) (1 : Int32) _ _ _ hsp hR (lv_sub hl [5, 2, 1, 0] rfl)

/-! TermRows.left(III)I -/
def z_X11_left_b117 (S : fh_S) (a : Nat) : Nat → fh_H → Int32 → Int32 → Int32 → Option ((Nat ⊕ Int32) × fh_H)
  | 0, _, _, _, _ => none
  | n + 1, h, y2, y3, y5 =>
    if y2 ≤ y5 then (if y3 = 0 then (fh_b1 (h.2.2 a 4) (fun j6 => fh_ck (fh_kq S j6 9) (some (Sum.inr (Int64.toInt32 (h.2.1 j6 0)), h)))) else (fh_b1 (h.2.2 a 4) (fun j3 => fh_ck (fh_kq S j3 9) (some (Sum.inr (Int64.toInt32 (h.2.1 j3 2)), h))))) else (fh_b1 (h.2.2 a 4) (fun j9 => fh_ck (fh_kq S j9 9) (fh_b1 (z_X9_whole S h j9) (fun r12 => fh_b1 (z_X9_leave S h j9 r12) (fun h14 => fh_let (y5 + 1) (fun v16 => z_X11_left_b117 S a n h14 y2 y3 v16))))))
def z_X11_left_b80 (S : fh_S) (a : Nat) (h : fh_H) (y2 : Int32) (y3 : Int32) (y4 : Nat) : Option ((Nat ⊕ Int32) × fh_H) :=
    fh_b1 (h.2.2 a 4) (fun j1 => fh_ck (fh_kq S y4 6) (fh_b1 (h.2.2 y4 4) (fun j4 => fh_ck (fh_kq S j4 3) (fh_ck (fh_kq S j1 9) (fh_b1 (z_X9_start S h j1 (Int32.toInt64 (h.1 j4 3)) (Int32.toInt64 (h.1 j4 4)) (Int32.toInt64 (h.1 j4 5))) (fun h8 => z_X11_left_b117 S a 20000 h8 y2 y3 (0 : Int32)))))))
def z_X11_left (S : fh_S) (h : fh_H) (a : Nat) (x1 : Int32) (x2 : Int32) (x3 : Int32) : Option ((Nat ⊕ Int32) × fh_H) :=
    fh_b1 (z_X11_find S h a x1) (fun r1 => fh_nn r1 (some (Sum.inl 1, h)) (fun j3 => fh_ck (fh_kq S j3 6) (fh_b1 (h.2.2 j3 4) (fun j5 => fh_ck (fh_kq S j5 3) (if (h.1 j5 0) = (1 : Int32) then (fh_b1 (z_X11_isSquare (Int32.toInt64 (h.1 j5 4))) (fun r9 => if r9 = 0 then (if x2 < 0 then (some (Sum.inl 1, h)) else (if (60 : Int32) ≤ x2 then (some (Sum.inl 1, h)) else (if x3 = 0 then (z_X11_left_b80 S a h x2 x3 j3) else (if x3 = (1 : Int32) then (z_X11_left_b80 S a h x2 x3 j3) else (some (Sum.inl 1, h)))))) else (some (Sum.inl 1, h)))) else (some (Sum.inl 1, h)))))))
set_option maxHeartbeats 4000000 in
set_option maxRecDepth 100000 in
theorem k_X11_left {l : Launch} {S : fh_S} {g : fh_G} {h h' : fh_H} {z : (Nat → Nat) × (Nat → Nat)} (hj : fh_inj S g) {a : Nat} {x1 : Int32} {x2 : Int32} {x3 : Int32} {r : (Nat ⊕ Int32)} (hlt : l.stackTraces = false) (ha : fh_kq S a 11 = true) (hsp : z_X11_left S h a x1 x2 x3 = some (r, h')) : fx_Mx l yX11_left cX11_left 6 (some .int) 3 1 S g z [.ref (g.2.2 a), .int x1, .int x2, .int x3] h (fx_oi r) h' := by
  unfold z_X11_left at hsp
  refine fz_headX (own := RX11) (by decide) rfl hj (Nat.le_of_ble_eq_true rfl) ?_
  intro p e s m below meth c ls C EX hno hr hlocks hR hl
  have hl : lv_has ls 6 [(0, .ref (g.2.2 a)), (1, .int x1), (2, .int x2), (3, .int x3)] := hl
  have hx := C.1.1
  have hb := C.1.2.1
  have hb_117 : ∀ (n : Nat) (h : fh_H) (y2 : Int32) (y3 : Int32) (y5 : Int32) (H : Heap) (locs : List Loc) (ls : Array Slot), z_X11_left_b117 S a n h y2 y3 y5 = some (r, h') → fh_R S g s.heap h H locs → lv_has ls 6 [(0, .ref (g.2.2 a)), (2, .int y2), (3, .int y3), (5, .int y5)] → fx_Wk p l e 3 1 0 s m [.ref (g.2.2 a), .int x1, .int x2, .int x3] below meth c S g (fx_oi r) h' H locs (F0 m 117 ls []) := by
    intro n
    induction n with
    | zero => intro h y2 y3 y5 H locs ls hsp; cases hsp
    | succ n ih =>
      intro h y2 y3 y5 H locs ls hsp hR hl
      rw [z_X11_left_b117] at hsp
      refine lv_iload hx hb dX11_left_117 (lv_at hl 3 rfl) ?_
      refine lv_iload_n hx hb dX11_left_119 rfl (lv_at hl 1 rfl) ?_
      refine lv_icmp_ge (tgt := 143) hx hb dX11_left_120 (by decide) (fun c1 => ?_) (fun c1 => ?_)
      · rw [if_pos c1] at hsp
        refine lv_iload_n hx hb dX11_left_143 rfl (lv_at hl 2 rfl) ?_
        refine lv_if_ne (tgt := 157) hx hb dX11_left_144 (by decide) (fun c2 => ?_) (fun c2 => ?_)
        · rw [if_neg c2] at hsp
          refine lv_aload_n hx hb dX11_left_157 rfl (lv_at hl 0 rfl) ?_
          obtain ⟨j3, hv4, hsp⟩ := fr_b1 hsp
          refine fr_getr C hR ha Fg_RX11_39 rfl hv4 dX11_left_158 ?_
          obtain ⟨hk5, hsp⟩ := fr_ck hsp
          refine fr_getj C hR hk5 Fg_RX11_318 rfl dX11_left_161 ?_
          refine lv_l2i hx hb dX11_left_164 rfl ?_
          obtain ⟨e1, e2⟩ := fr_s2 hsp
          exact fz_iret C hr hlocks hR e1 e2 (Nat.le_of_ble_eq_true rfl) (Nat.le_of_ble_eq_true rfl) dX11_left_165
        · rw [if_pos c2] at hsp
          refine lv_aload_n hx hb dX11_left_147 rfl (lv_at hl 0 rfl) ?_
          obtain ⟨j6, hv7, hsp⟩ := fr_b1 hsp
          refine fr_getr C hR ha Fg_RX11_39 rfl hv7 dX11_left_148 ?_
          obtain ⟨hk8, hsp⟩ := fr_ck hsp
          refine fr_getj C hR hk8 Fg_RX11_315 rfl dX11_left_151 ?_
          refine lv_goto (tgt := 164) hx hb dX11_left_154 (by decide) ?_
          refine lv_l2i hx hb dX11_left_164 rfl ?_
          obtain ⟨e1, e2⟩ := fr_s2 hsp
          exact fz_iret C hr hlocks hR e1 e2 (Nat.le_of_ble_eq_true rfl) (Nat.le_of_ble_eq_true rfl) dX11_left_165
      · rw [if_neg c1] at hsp
        refine lv_aload_n hx hb dX11_left_123 rfl (lv_at hl 0 rfl) ?_
        obtain ⟨j9, hv10, hsp⟩ := fr_b1 hsp
        refine fr_getr C hR ha Fg_RX11_39 rfl hv10 dX11_left_124 ?_
        refine lv_aload_n hx hb dX11_left_127 rfl (lv_at hl 0 rfl) ?_
        refine fr_getr C hR ha Fg_RX11_39 rfl hv10 dX11_left_128 ?_
        obtain ⟨hk11, hsp⟩ := fr_ck hsp
        obtain ⟨r12, E13, hsp⟩ := fr_b1 hsp
        refine fq_callV (rest := [.ref (g.2.2 j9)]) (st1 := [.long r12, .ref (g.2.2 j9)]) C hR (k_X9_whole C.2.2 hk11 E13) Y_X9_whole YV_X9_whole Lk_RX11_307 hk11 ⟨_, _, rfl, by decide⟩ rfl hl.1 ⟨Nat.le_of_ble_eq_true rfl, Nat.le_of_ble_eq_true rfl⟩ rfl (Nat.le_of_ble_eq_true rfl) ⟨Nat.le_of_ble_eq_true rfl, Nat.le_of_ble_eq_true rfl⟩ rfl dX11_left_131 (fun H locs hR => ?_)
        obtain ⟨h14, E15, hsp⟩ := fr_b1 hsp
        refine fq_callV (rest := []) (st1 := []) C hR (k_X9_leave C.2.2 hk11 E15) Y_X9_leave YV_X9_leave Lk_RX11_311 hk11 ⟨_, _, rfl, by decide⟩ rfl hl.1 ⟨Nat.le_of_ble_eq_true rfl, Nat.le_of_ble_eq_true rfl⟩ rfl (Nat.le_of_ble_eq_true rfl) ⟨Nat.le_of_ble_eq_true rfl, Nat.le_of_ble_eq_true rfl⟩ rfl dX11_left_134 (fun H locs hR => ?_)
        obtain ⟨v16, ev16⟩ : ∃ z : Int32, z = y5 + 1 := ⟨_, rfl⟩
        have hsp := fr_let ev16 hsp
        refine lv_iinc (v := v16) (lv' := [(5, .int v16), (0, .ref (g.2.2 a)), (2, .int y2), (3, .int y3)]) hx hb dX11_left_137 hl (k := 3) rfl (by rw [ev16]; rfl) (by decide) rfl (fun ls hl => ?_)
        refine lv_goto (tgt := 117) hx hb dX11_left_140 (by decide) ?_
        refine W.widen (k := 0) (n := 6 * 0) (Nat.le_of_ble_eq_true rfl) (Nat.le_of_ble_eq_true rfl) ?_
        exact ih h14 y2 y3 v16 _ _ _ hsp hR (lv_sub hl [1, 2, 3, 0] rfl)
  have hb_80 : ∀ (h : fh_H) (y2 : Int32) (y3 : Int32) (y4 : Nat) (H : Heap) (locs : List Loc) (ls : Array Slot), z_X11_left_b80 S a h y2 y3 y4 = some (r, h') → fh_R S g s.heap h H locs → lv_has ls 6 [(0, .ref (g.2.2 a)), (2, .int y2), (3, .int y3), (4, .ref (g.2.2 y4))] → fx_Wk p l e 3 1 0 s m [.ref (g.2.2 a), .int x1, .int x2, .int x3] below meth c S g (fx_oi r) h' H locs (F0 m 80 ls []) := by
    intro h y2 y3 y4 H locs ls hsp hR hl
    unfold z_X11_left_b80 at hsp
    refine lv_aload_n hx hb dX11_left_80 rfl (lv_at hl 0 rfl) ?_
    obtain ⟨j1, hv2, hsp⟩ := fr_b1 hsp
    refine fr_getr C hR ha Fg_RX11_39 rfl hv2 dX11_left_81 ?_
    refine lv_aload hx hb dX11_left_84 (lv_at hl 3 rfl) ?_
    obtain ⟨hk3, hsp⟩ := fr_ck hsp
    obtain ⟨j4, hv5, hsp⟩ := fr_b1 hsp
    refine fr_getr C hR hk3 Fg_RX11_168 rfl hv5 dX11_left_86 ?_
    obtain ⟨hk6, hsp⟩ := fr_ck hsp
    refine fr_geti C hR hk6 Fg_RX11_298 rfl dX11_left_89 ?_
    refine lv_i2l hx hb dX11_left_92 rfl ?_
    refine lv_aload hx hb dX11_left_93 (lv_at hl 3 rfl) ?_
    refine fr_getr C hR hk3 Fg_RX11_168 rfl hv5 dX11_left_95 ?_
    refine fr_geti C hR hk6 Fg_RX11_287 rfl dX11_left_98 ?_
    refine lv_i2l hx hb dX11_left_101 rfl ?_
    refine lv_aload hx hb dX11_left_102 (lv_at hl 3 rfl) ?_
    refine fr_getr C hR hk3 Fg_RX11_168 rfl hv5 dX11_left_104 ?_
    refine fr_geti C hR hk6 Fg_RX11_301 rfl dX11_left_107 ?_
    refine lv_i2l hx hb dX11_left_110 rfl ?_
    obtain ⟨hk7, hsp⟩ := fr_ck hsp
    obtain ⟨h8, E9, hsp⟩ := fr_b1 hsp
    refine fq_callV (rest := []) (st1 := []) C hR (k_X9_start C.2.2 hk7 E9) Y_X9_start YV_X9_start Lk_RX11_304 hk7 ⟨_, _, rfl, by decide⟩ rfl hl.1 ⟨Nat.le_of_ble_eq_true rfl, Nat.le_of_ble_eq_true rfl⟩ rfl (Nat.le_of_ble_eq_true rfl) ⟨Nat.le_of_ble_eq_true rfl, Nat.le_of_ble_eq_true rfl⟩ rfl dX11_left_111 (fun H locs hR => ?_)
    refine lv_iconst (v := 0) hx hb dX11_left_114 (by decide) ?_
    refine lv_istore (lv' := [(5, .int (0 : Int32)), (0, .ref (g.2.2 a)), (2, .int y2), (3, .int y3), (4, .ref (g.2.2 y4))]) hx hb dX11_left_115 hl (by decide) rfl (fun ls hl => ?_)
    refine W.widen (k := 0) (n := 6 * 0) (Nat.le_of_ble_eq_true rfl) (Nat.le_of_ble_eq_true rfl) ?_
    exact hb_117 20000 h8 y2 y3 (0 : Int32) _ _ _ hsp hR (lv_sub hl [1, 2, 3, 0] rfl)
  refine lv_aload_n hx hb dX11_left_0 rfl (lv_at hl 0 rfl) ?_
  refine lv_iload_n hx hb dX11_left_1 rfl (lv_at hl 1 rfl) ?_
  obtain ⟨r1, E2, hsp⟩ := fr_b1 hsp
  refine fq_callV (rest := []) (st1 := [va_rf (Option.map g.2.2 r1)]) C hR (k_X11_find C.2.2 ha E2) Y_X11_find YV_X11_find Lk_RX11_87 ha ⟨_, _, rfl, by decide⟩ rfl hl.1 ⟨Nat.le_of_ble_eq_true rfl, Nat.le_of_ble_eq_true rfl⟩ rfl (Nat.le_of_ble_eq_true rfl) ⟨Nat.le_of_ble_eq_true rfl, Nat.le_of_ble_eq_true rfl⟩ rfl dX11_left_2 (fun H locs hR => ?_)
  rcases r1 with _ | j3
  · have hsp := fr_nnN hsp
    refine W.eq (g2 := F0 m 5 ls [.null]) rfl ?_
    refine lv_astoreN (lv' := [(4, .null), (0, .ref (g.2.2 a)), (1, .int x1), (2, .int x2), (3, .int x3)]) hx hb dX11_left_5 hl (by decide) rfl (fun ls hl => ?_)
    refine lv_aloadN hx hb dX11_left_7 (lv_at hl 0 rfl) ?_
    refine lv_ifnullN (tgt := 39) hx hb dX11_left_9 (by decide) ?_
    obtain ⟨e1, e2⟩ := fr_s2 hsp
    exact fz_throwW (is := 294) (text := "no such root") 1 (Or.inr rfl) C EX hlt hno hlocks hR (congrArg fx_oi e1) e2 (List.mem_of_getElem? (i := 11) rfl) hl.1 ⟨Nat.le_of_ble_eq_true rfl, Nat.le_of_ble_eq_true rfl, Nat.le_of_ble_eq_true rfl⟩ ⟨Nat.le_of_ble_eq_true rfl, Nat.le_of_ble_eq_true rfl⟩ (Nat.le_of_ble_eq_true rfl) (Nat.le_of_ble_eq_true rfl) dX11_left_39 dX11_left_42 dX11_left_43 dX11_left_46 dX11_left_49
  · have hsp := fr_nnS hsp
    refine W.eq (g2 := F0 m 5 ls [.ref (g.2.2 j3)]) rfl ?_
    refine lv_astore (lv' := [(4, .ref (g.2.2 j3)), (0, .ref (g.2.2 a)), (1, .int x1), (2, .int x2), (3, .int x3)]) hx hb dX11_left_5 hl (by decide) rfl (fun ls hl => ?_)
    refine lv_aload hx hb dX11_left_7 (lv_at hl 0 rfl) ?_
    refine lv_ifnull hx hb dX11_left_9 ?_
    refine lv_aload hx hb dX11_left_12 (lv_at hl 0 rfl) ?_
    obtain ⟨hk4, hsp⟩ := fr_ck hsp
    obtain ⟨j5, hv6, hsp⟩ := fr_b1 hsp
    refine fr_getr C hR hk4 Fg_RX11_168 rfl hv6 dX11_left_14 ?_
    obtain ⟨hk7, hsp⟩ := fr_ck hsp
    refine fr_geti C hR hk7 Fg_RX11_172 rfl dX11_left_17 ?_
    refine lv_iconst (v := 1) hx hb dX11_left_20 (by decide) ?_
    refine lv_icmp_ne (tgt := 39) hx hb dX11_left_21 (by decide) (fun c8 => ?_) (fun c8 => ?_)
    · rw [if_neg c8] at hsp
      obtain ⟨e1, e2⟩ := fr_s2 hsp
      exact fz_throwW (is := 294) (text := "no such root") 1 (Or.inr rfl) C EX hlt hno hlocks hR (congrArg fx_oi e1) e2 (List.mem_of_getElem? (i := 11) rfl) hl.1 ⟨Nat.le_of_ble_eq_true rfl, Nat.le_of_ble_eq_true rfl, Nat.le_of_ble_eq_true rfl⟩ ⟨Nat.le_of_ble_eq_true rfl, Nat.le_of_ble_eq_true rfl⟩ (Nat.le_of_ble_eq_true rfl) (Nat.le_of_ble_eq_true rfl) dX11_left_39 dX11_left_42 dX11_left_43 dX11_left_46 dX11_left_49
    · rw [if_pos c8] at hsp
      refine lv_aload hx hb dX11_left_24 (lv_at hl 0 rfl) ?_
      refine fr_getr C hR hk4 Fg_RX11_168 rfl hv6 dX11_left_26 ?_
      refine fr_geti C hR hk7 Fg_RX11_287 rfl dX11_left_29 ?_
      refine lv_i2l hx hb dX11_left_32 rfl ?_
      obtain ⟨r9, E10, hsp⟩ := fr_b1 hsp
      refine fq_callS (rest := []) (st1 := [.int r9]) C hR (k_X11_isSquare C.2.2 E10) Y_X11_isSquare YS_X11_isSquare Lk_RX11_290 rfl hl.1 ⟨Nat.le_of_ble_eq_true rfl, Nat.le_of_ble_eq_true rfl⟩ rfl (Nat.le_of_ble_eq_true rfl) ⟨Nat.le_of_ble_eq_true rfl, Nat.le_of_ble_eq_true rfl⟩ rfl dX11_left_33 (fun H locs hR => ?_)
      refine lv_if_eq (tgt := 50) hx hb dX11_left_36 (by decide) (fun c11 => ?_) (fun c11 => ?_)
      · rw [if_pos c11] at hsp
        refine lv_iload_n hx hb dX11_left_50 rfl (lv_at hl 3 rfl) ?_
        refine lv_if_lt (tgt := 69) hx hb dX11_left_51 (by decide) (fun c12 => ?_) (fun c12 => ?_)
        · rw [if_pos c12] at hsp
          obtain ⟨e1, e2⟩ := fr_s2 hsp
          exact fz_throwW (is := 296) (text := "no such state") 1 (Or.inr rfl) C EX hlt hno hlocks hR (congrArg fx_oi e1) e2 (List.mem_of_getElem? (i := 12) rfl) hl.1 ⟨Nat.le_of_ble_eq_true rfl, Nat.le_of_ble_eq_true rfl, Nat.le_of_ble_eq_true rfl⟩ ⟨Nat.le_of_ble_eq_true rfl, Nat.le_of_ble_eq_true rfl⟩ (Nat.le_of_ble_eq_true rfl) (Nat.le_of_ble_eq_true rfl) dX11_left_69 dX11_left_72 dX11_left_73 dX11_left_76 dX11_left_79
        · rw [if_neg c12] at hsp
          refine lv_iload_n hx hb dX11_left_54 rfl (lv_at hl 3 rfl) ?_
          refine lv_bipush (v := 60) hx hb dX11_left_55 (by decide) ?_
          refine lv_icmp_ge (tgt := 69) hx hb dX11_left_57 (by decide) (fun c13 => ?_) (fun c13 => ?_)
          · rw [if_pos c13] at hsp
            obtain ⟨e1, e2⟩ := fr_s2 hsp
            exact fz_throwW (is := 296) (text := "no such state") 1 (Or.inr rfl) C EX hlt hno hlocks hR (congrArg fx_oi e1) e2 (List.mem_of_getElem? (i := 12) rfl) hl.1 ⟨Nat.le_of_ble_eq_true rfl, Nat.le_of_ble_eq_true rfl, Nat.le_of_ble_eq_true rfl⟩ ⟨Nat.le_of_ble_eq_true rfl, Nat.le_of_ble_eq_true rfl⟩ (Nat.le_of_ble_eq_true rfl) (Nat.le_of_ble_eq_true rfl) dX11_left_69 dX11_left_72 dX11_left_73 dX11_left_76 dX11_left_79
          · rw [if_neg c13] at hsp
            refine lv_iload_n hx hb dX11_left_60 rfl (lv_at hl 4 rfl) ?_
            refine lv_if_eq (tgt := 80) hx hb dX11_left_61 (by decide) (fun c14 => ?_) (fun c14 => ?_)
            · rw [if_pos c14] at hsp
              refine W.widen (k := 0) (n := 6 * 0) (Nat.le_of_ble_eq_true rfl) (Nat.le_of_ble_eq_true rfl) ?_
              exact hb_80 h x2 x3 j3 _ _ _ hsp hR (lv_sub hl [1, 3, 4, 0] rfl)
            · rw [if_neg c14] at hsp
              refine lv_iload_n hx hb dX11_left_64 rfl (lv_at hl 4 rfl) ?_
              refine lv_iconst (v := 1) hx hb dX11_left_65 (by decide) ?_
              refine lv_icmp_eq (tgt := 80) hx hb dX11_left_66 (by decide) (fun c15 => ?_) (fun c15 => ?_)
              · rw [if_pos c15] at hsp
                refine W.widen (k := 0) (n := 6 * 0) (Nat.le_of_ble_eq_true rfl) (Nat.le_of_ble_eq_true rfl) ?_
                exact hb_80 h x2 x3 j3 _ _ _ hsp hR (lv_sub hl [1, 3, 4, 0] rfl)
              · rw [if_neg c15] at hsp
                obtain ⟨e1, e2⟩ := fr_s2 hsp
                exact fz_throwW (is := 296) (text := "no such state") 1 (Or.inr rfl) C EX hlt hno hlocks hR (congrArg fx_oi e1) e2 (List.mem_of_getElem? (i := 12) rfl) hl.1 ⟨Nat.le_of_ble_eq_true rfl, Nat.le_of_ble_eq_true rfl, Nat.le_of_ble_eq_true rfl⟩ ⟨Nat.le_of_ble_eq_true rfl, Nat.le_of_ble_eq_true rfl⟩ (Nat.le_of_ble_eq_true rfl) (Nat.le_of_ble_eq_true rfl) dX11_left_69 dX11_left_72 dX11_left_73 dX11_left_76 dX11_left_79
      · rw [if_neg c11] at hsp
        obtain ⟨e1, e2⟩ := fr_s2 hsp
        exact fz_throwW (is := 294) (text := "no such root") 1 (Or.inr rfl) C EX hlt hno hlocks hR (congrArg fx_oi e1) e2 (List.mem_of_getElem? (i := 11) rfl) hl.1 ⟨Nat.le_of_ble_eq_true rfl, Nat.le_of_ble_eq_true rfl, Nat.le_of_ble_eq_true rfl⟩ ⟨Nat.le_of_ble_eq_true rfl, Nat.le_of_ble_eq_true rfl⟩ (Nat.le_of_ble_eq_true rfl) (Nat.le_of_ble_eq_true rfl) dX11_left_39 dX11_left_42 dX11_left_43 dX11_left_46 dX11_left_49

/-! TermRows.say(II)I -/
def z_X11_say_b91 (S : fh_S) (a : Nat) (h : fh_H) (y2 : Int32) (y3 : Nat) : Option ((Nat ⊕ Int32) × fh_H) :=
    fh_b1 (h.2.2 a 9) (fun j1 => fh_ck (fh_kq S j1 8) (fh_ck (fh_kq S y3 6) (fh_b1 (z_X8_putFirst S h j1 y3 y2) (fun h5 => fh_b1 (h5.2.2 a 9) (fun j7 => fh_ck (fh_kq S j7 8) (some (Sum.inr (h5.1 j7 1), h5)))))))
def z_X11_say (S : fh_S) (h : fh_H) (a : Nat) (x1 : Int32) (x2 : Int32) : Option ((Nat ⊕ Int32) × fh_H) :=
    fh_bx (z_X11_settled S h a x1) (fun r1 h2 => fh_b1 r1 (fun j4 => if x2 < (1 : Int32) then (some (Sum.inl 0, h2)) else (if x2 ≤ (60 : Int32) then (fh_ck (fh_kq S j4 6) (fh_b1 (z_X11_comingAgain S h2 j4) (fun r8 => fh_b1 (z_X11_partOfPair r8 (0 : Int32)) (fun r10 => fh_b1 (z_J9_max_7cf53 (1 : Int32) r10) (fun r12 => fh_b1 (z_X11_partOfPair r8 (1 : Int32)) (fun r14 => fh_b1 (h2.2.2 a 9) (fun j16 => fh_ck (fh_kq S j16 8) (fh_b1 (z_X8_start S h2 j16) (fun h19 => if r8 = (-1 : Int32) then (z_X11_say_b91 S a h19 x2 j4) else (if x2 < (r12 + r14) then (z_X11_say_b91 S a h19 x2 j4) else (fh_b1 (h19.2.2 a 9) (fun j23 => fh_ck (fh_kq S j23 8) (fh_b1 (z_X8_putReturning S h19 j23 j4 r12 r14) (fun h26 => fh_b1 (h26.2.2 a 9) (fun j28 => fh_ck (fh_kq S j28 8) (some (Sum.inr (h26.1 j28 1), h26))))))))))))))))) else (some (Sum.inl 0, h2)))))
set_option maxHeartbeats 4000000 in
set_option maxRecDepth 100000 in
theorem k_X11_say {l : Launch} {S : fh_S} {g : fh_G} {h h' : fh_H} {z : (Nat → Nat) × (Nat → Nat)} (hj : fh_inj S g) {a : Nat} {x1 : Int32} {x2 : Int32} {r : (Nat ⊕ Int32)} (hlt : l.stackTraces = false) (ha : fh_kq S a 11 = true) (hsp : z_X11_say S h a x1 x2 = some (r, h')) : fx_Mx l yX11_say cX11_say 7 (some .int) 7 2 S g z [.ref (g.2.2 a), .int x1, .int x2] h (fx_oi r) h' := by
  unfold z_X11_say at hsp
  refine fz_headX (own := RX11) (by decide) rfl hj (Nat.le_of_ble_eq_true rfl) ?_
  intro p e s m below meth c ls C EX hno hr hlocks hR hl
  have hl : lv_has ls 7 [(0, .ref (g.2.2 a)), (1, .int x1), (2, .int x2)] := hl
  have hx := C.1.1
  have hb := C.1.2.1
  have hb_91 : ∀ (h : fh_H) (y2 : Int32) (y3 : Nat) (H : Heap) (locs : List Loc) (ls : Array Slot), z_X11_say_b91 S a h y2 y3 = some (r, h') → fh_R S g s.heap h H locs → lv_has ls 7 [(0, .ref (g.2.2 a)), (2, .int y2), (3, .ref (g.2.2 y3))] → fx_Wk p l e 7 2 1 s m [.ref (g.2.2 a), .int x1, .int x2] below meth c S g (fx_oi r) h' H locs (F0 m 91 ls []) := by
    intro h y2 y3 H locs ls hsp hR hl
    unfold z_X11_say_b91 at hsp
    refine lv_aload_n hx hb dX11_say_91 rfl (lv_at hl 0 rfl) ?_
    obtain ⟨j1, hv2, hsp⟩ := fr_b1 hsp
    refine fr_getr C hR ha Fg_RX11_76 rfl hv2 dX11_say_92 ?_
    refine lv_aload_n hx hb dX11_say_95 rfl (lv_at hl 2 rfl) ?_
    refine lv_iload_n hx hb dX11_say_96 rfl (lv_at hl 1 rfl) ?_
    obtain ⟨hk3, hsp⟩ := fr_ck hsp
    obtain ⟨hk4, hsp⟩ := fr_ck hsp
    obtain ⟨h5, E6, hsp⟩ := fr_b1 hsp
    refine fq_callV (rest := []) (st1 := []) C hR (k_X8_putFirst C.2.2 hk3 hk4 E6) Y_X8_putFirst YV_X8_putFirst Lk_RX11_333 hk3 ⟨_, _, rfl, by decide⟩ rfl hl.1 ⟨Nat.le_of_ble_eq_true rfl, Nat.le_of_ble_eq_true rfl⟩ rfl (Nat.le_of_ble_eq_true rfl) ⟨Nat.le_of_ble_eq_true rfl, Nat.le_of_ble_eq_true rfl⟩ rfl dX11_say_97 (fun H locs hR => ?_)
    refine lv_aload_n hx hb dX11_say_100 rfl (lv_at hl 0 rfl) ?_
    obtain ⟨j7, hv8, hsp⟩ := fr_b1 hsp
    refine fr_getr C hR ha Fg_RX11_76 rfl hv8 dX11_say_101 ?_
    obtain ⟨hk9, hsp⟩ := fr_ck hsp
    refine fr_geti C hR hk9 Fg_RX11_336 rfl dX11_say_104 ?_
    obtain ⟨e1, e2⟩ := fr_s2 hsp
    exact fz_iret C hr hlocks hR e1 e2 (Nat.le_of_ble_eq_true rfl) (Nat.le_of_ble_eq_true rfl) dX11_say_107
  refine lv_aload_n hx hb dX11_say_0 rfl (lv_at hl 0 rfl) ?_
  refine lv_iload_n hx hb dX11_say_1 rfl (lv_at hl 1 rfl) ?_
  rcases fr_bx hsp with ⟨r1, h2, E3, hsp⟩ | ⟨r1, h2, E3, hsp⟩
  · obtain ⟨e1, e2⟩ := fr_s2 hsp
    exact fz_xVo (k := r1) (rest := []) C EX hR (k_X11_settled C.2.2 hlt ha E3) Y_X11_settled YV_X11_settled Lk_RX11_127 (fz_rv C hR ha ⟨_, _, rfl, by decide⟩) rfl hl.1 ⟨Nat.le_of_ble_eq_true rfl, Nat.le_of_ble_eq_true rfl⟩ rfl (Nat.le_of_ble_eq_true rfl) ⟨Nat.le_of_ble_eq_true rfl, Nat.le_of_ble_eq_true rfl⟩ dX11_say_2 hno hlocks (congrArg fx_oi e1) e2 (Nat.le_of_ble_eq_true rfl) (Nat.le_of_ble_eq_true rfl)
  refine fz_xVr (rest := []) (st1 := [va_rf (Option.map g.2.2 r1)]) C EX hR (k_X11_settled C.2.2 hlt ha E3) Y_X11_settled YV_X11_settled Lk_RX11_127 (fz_rv C hR ha ⟨_, _, rfl, by decide⟩) rfl hl.1 ⟨Nat.le_of_ble_eq_true rfl, Nat.le_of_ble_eq_true rfl⟩ rfl (Nat.le_of_ble_eq_true rfl) ⟨Nat.le_of_ble_eq_true rfl, Nat.le_of_ble_eq_true rfl⟩ rfl dX11_say_2 (fun H locs hR => ?_)
  obtain ⟨j4, ej4, hq⟩ := fr_b1 hsp
  subst ej4
  have hsp := hq
  refine W.eq (g2 := F0 m 5 ls [.ref (g.2.2 j4)]) rfl ?_
  refine lv_astore_n (lv' := [(3, .ref (g.2.2 j4)), (0, .ref (g.2.2 a)), (1, .int x1), (2, .int x2)]) hx hb dX11_say_5 rfl hl (by decide) rfl (fun ls hl => ?_)
  refine lv_iload_n hx hb dX11_say_6 rfl (lv_at hl 3 rfl) ?_
  refine lv_iconst (v := 1) hx hb dX11_say_7 (by decide) ?_
  refine lv_icmp_lt (tgt := 17) hx hb dX11_say_8 (by decide) (fun c5 => ?_) (fun c5 => ?_)
  · rw [if_pos c5] at hsp
    obtain ⟨e1, e2⟩ := fr_s2 hsp
    exact fz_throwW (is := 321) (text := "n isn't 1 to 60") 0 (Or.inl rfl) C EX hlt hno hlocks hR (congrArg fx_oi e1) e2 (List.mem_of_getElem? (i := 13) rfl) hl.1 ⟨Nat.le_of_ble_eq_true rfl, Nat.le_of_ble_eq_true rfl, Nat.le_of_ble_eq_true rfl⟩ ⟨Nat.le_of_ble_eq_true rfl, Nat.le_of_ble_eq_true rfl⟩ (Nat.le_of_ble_eq_true rfl) (Nat.le_of_ble_eq_true rfl) dX11_say_17 dX11_say_20 dX11_say_21 dX11_say_24 dX11_say_27
  · rw [if_neg c5] at hsp
    refine lv_iload_n hx hb dX11_say_11 rfl (lv_at hl 3 rfl) ?_
    refine lv_bipush (v := 60) hx hb dX11_say_12 (by decide) ?_
    refine lv_icmp_le (tgt := 28) hx hb dX11_say_14 (by decide) (fun c6 => ?_) (fun c6 => ?_)
    · rw [if_pos c6] at hsp
      refine lv_aload_n hx hb dX11_say_28 rfl (lv_at hl 0 rfl) ?_
      obtain ⟨hk7, hsp⟩ := fr_ck hsp
      obtain ⟨r8, E9, hsp⟩ := fr_b1 hsp
      refine fq_callS (rest := []) (st1 := [.int r8]) C hR (k_X11_comingAgain C.2.2 hk7 E9) Y_X11_comingAgain YS_X11_comingAgain Lk_RX11_262 rfl hl.1 ⟨Nat.le_of_ble_eq_true rfl, Nat.le_of_ble_eq_true rfl⟩ rfl (Nat.le_of_ble_eq_true rfl) ⟨Nat.le_of_ble_eq_true rfl, Nat.le_of_ble_eq_true rfl⟩ rfl dX11_say_29 (fun H locs hR => ?_)
      refine lv_istore (lv' := [(4, .int r8), (3, .ref (g.2.2 j4)), (0, .ref (g.2.2 a)), (1, .int x1), (2, .int x2)]) hx hb dX11_say_32 hl (by decide) rfl (fun ls hl => ?_)
      refine lv_iconst (v := 1) hx hb dX11_say_34 (by decide) ?_
      refine lv_iload hx hb dX11_say_35 (lv_at hl 0 rfl) ?_
      refine lv_iconst (v := 0) hx hb dX11_say_37 (by decide) ?_
      obtain ⟨r10, E11, hsp⟩ := fr_b1 hsp
      refine fq_callS (rest := [.int (1 : Int32)]) (st1 := [.int r10, .int (1 : Int32)]) C hR (k_X11_partOfPair C.2.2 E11) Y_X11_partOfPair YS_X11_partOfPair Lk_RX11_265 rfl hl.1 ⟨Nat.le_of_ble_eq_true rfl, Nat.le_of_ble_eq_true rfl⟩ rfl (Nat.le_of_ble_eq_true rfl) ⟨Nat.le_of_ble_eq_true rfl, Nat.le_of_ble_eq_true rfl⟩ rfl dX11_say_38 (fun H locs hR => ?_)
      obtain ⟨r12, E13, hsp⟩ := fr_b1 hsp
      refine fq_callS (rest := []) (st1 := [.int r12]) C hR (k_J9_max_7cf53 C.2.2 E13) Y_J9_max_7cf53 YS_J9_max_7cf53 Lk_RX11_323 rfl hl.1 ⟨Nat.le_of_ble_eq_true rfl, Nat.le_of_ble_eq_true rfl⟩ rfl (Nat.le_of_ble_eq_true rfl) ⟨Nat.le_of_ble_eq_true rfl, Nat.le_of_ble_eq_true rfl⟩ rfl dX11_say_41 (fun H locs hR => ?_)
      refine lv_istore (lv' := [(5, .int r12), (4, .int r8), (3, .ref (g.2.2 j4)), (0, .ref (g.2.2 a)), (1, .int x1), (2, .int x2)]) hx hb dX11_say_44 hl (by decide) rfl (fun ls hl => ?_)
      refine lv_iload hx hb dX11_say_46 (lv_at hl 1 rfl) ?_
      refine lv_iconst (v := 1) hx hb dX11_say_48 (by decide) ?_
      obtain ⟨r14, E15, hsp⟩ := fr_b1 hsp
      refine fq_callS (rest := []) (st1 := [.int r14]) C hR (k_X11_partOfPair C.2.2 E15) Y_X11_partOfPair YS_X11_partOfPair Lk_RX11_265 rfl hl.1 ⟨Nat.le_of_ble_eq_true rfl, Nat.le_of_ble_eq_true rfl⟩ rfl (Nat.le_of_ble_eq_true rfl) ⟨Nat.le_of_ble_eq_true rfl, Nat.le_of_ble_eq_true rfl⟩ rfl dX11_say_49 (fun H locs hR => ?_)
      refine lv_istore (lv' := [(6, .int r14), (5, .int r12), (4, .int r8), (3, .ref (g.2.2 j4)), (0, .ref (g.2.2 a)), (1, .int x1), (2, .int x2)]) hx hb dX11_say_52 hl (by decide) rfl (fun ls hl => ?_)
      refine lv_aload_n hx hb dX11_say_54 rfl (lv_at hl 4 rfl) ?_
      obtain ⟨j16, hv17, hsp⟩ := fr_b1 hsp
      refine fr_getr C hR ha Fg_RX11_76 rfl hv17 dX11_say_55 ?_
      obtain ⟨hk18, hsp⟩ := fr_ck hsp
      obtain ⟨h19, E20, hsp⟩ := fr_b1 hsp
      refine fq_callV (rest := []) (st1 := []) C hR (k_X8_start C.2.2 hk18 E20) Y_X8_start YV_X8_start Lk_RX11_328 hk18 ⟨_, _, rfl, by decide⟩ rfl hl.1 ⟨Nat.le_of_ble_eq_true rfl, Nat.le_of_ble_eq_true rfl⟩ rfl (Nat.le_of_ble_eq_true rfl) ⟨Nat.le_of_ble_eq_true rfl, Nat.le_of_ble_eq_true rfl⟩ rfl dX11_say_58 (fun H locs hR => ?_)
      refine lv_iload hx hb dX11_say_61 (lv_at hl 2 rfl) ?_
      refine lv_iconst (v := -1) hx hb dX11_say_63 (by decide) ?_
      refine lv_icmp_eq (tgt := 91) hx hb dX11_say_64 (by decide) (fun c21 => ?_) (fun c21 => ?_)
      · rw [if_pos c21] at hsp
        refine W.widen (k := 1) (n := 6 * 1) (Nat.le_of_ble_eq_true rfl) (Nat.le_of_ble_eq_true rfl) ?_
        exact hb_91 h19 x2 j4 _ _ _ hsp hR (lv_sub hl [4, 6, 3] rfl)
      · rw [if_neg c21] at hsp
        refine lv_iload hx hb dX11_say_67 (lv_at hl 1 rfl) ?_
        refine lv_iload hx hb dX11_say_69 (lv_at hl 0 rfl) ?_
        refine lv_iadd hx hb dX11_say_71 ?_
        refine lv_iload_n hx hb dX11_say_72 rfl (lv_at hl 6 rfl) ?_
        refine lv_icmp_gt (tgt := 91) hx hb dX11_say_73 (by decide) (fun c22 => ?_) (fun c22 => ?_)
        · rw [if_pos c22] at hsp
          refine W.widen (k := 1) (n := 6 * 1) (Nat.le_of_ble_eq_true rfl) (Nat.le_of_ble_eq_true rfl) ?_
          exact hb_91 h19 x2 j4 _ _ _ hsp hR (lv_sub hl [4, 6, 3] rfl)
        · rw [if_neg c22] at hsp
          refine lv_aload_n hx hb dX11_say_76 rfl (lv_at hl 4 rfl) ?_
          obtain ⟨j23, hv24, hsp⟩ := fr_b1 hsp
          refine fr_getr C hR ha Fg_RX11_76 rfl hv24 dX11_say_77 ?_
          refine lv_aload_n hx hb dX11_say_80 rfl (lv_at hl 3 rfl) ?_
          refine lv_iload hx hb dX11_say_81 (lv_at hl 1 rfl) ?_
          refine lv_iload hx hb dX11_say_83 (lv_at hl 0 rfl) ?_
          obtain ⟨hk25, hsp⟩ := fr_ck hsp
          obtain ⟨h26, E27, hsp⟩ := fr_b1 hsp
          refine fq_callV (rest := []) (st1 := []) C hR (k_X8_putReturning C.2.2 hk25 hk7 E27) Y_X8_putReturning YV_X8_putReturning Lk_RX11_329 hk25 ⟨_, _, rfl, by decide⟩ rfl hl.1 ⟨Nat.le_of_ble_eq_true rfl, Nat.le_of_ble_eq_true rfl⟩ rfl (Nat.le_of_ble_eq_true rfl) ⟨Nat.le_of_ble_eq_true rfl, Nat.le_of_ble_eq_true rfl⟩ rfl dX11_say_85 (fun H locs hR => ?_)
          refine lv_goto (tgt := 100) hx hb dX11_say_88 (by decide) ?_
          refine lv_aload_n hx hb dX11_say_100 rfl (lv_at hl 4 rfl) ?_
          obtain ⟨j28, hv29, hsp⟩ := fr_b1 hsp
          refine fr_getr C hR ha Fg_RX11_76 rfl hv29 dX11_say_101 ?_
          obtain ⟨hk30, hsp⟩ := fr_ck hsp
          refine fr_geti C hR hk30 Fg_RX11_336 rfl dX11_say_104 ?_
          obtain ⟨e1, e2⟩ := fr_s2 hsp
          exact fz_iret C hr hlocks hR e1 e2 (Nat.le_of_ble_eq_true rfl) (Nat.le_of_ble_eq_true rfl) dX11_say_107
    · rw [if_neg c6] at hsp
      obtain ⟨e1, e2⟩ := fr_s2 hsp
      exact fz_throwW (is := 321) (text := "n isn't 1 to 60") 0 (Or.inl rfl) C EX hlt hno hlocks hR (congrArg fx_oi e1) e2 (List.mem_of_getElem? (i := 13) rfl) hl.1 ⟨Nat.le_of_ble_eq_true rfl, Nat.le_of_ble_eq_true rfl, Nat.le_of_ble_eq_true rfl⟩ ⟨Nat.le_of_ble_eq_true rfl, Nat.le_of_ble_eq_true rfl⟩ (Nat.le_of_ble_eq_true rfl) (Nat.le_of_ble_eq_true rfl) dX11_say_17 dX11_say_20 dX11_say_21 dX11_say_24 dX11_say_27
