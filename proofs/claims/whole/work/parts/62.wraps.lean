/-! the law's wrappers: what a call throws becomes a number -/
/-! TermRowsLaw.told(LTermRows;II[J)I -/
def z_L_told (S : fh_S) (h : fh_H) (x0 : Nat) (x1 : Int32) (x2 : Int32) (x3 : Nat) : Option (Int32 × fh_H) :=
    fl_b (z_X11_told S h x0 x1 x2) (some 1) none (fun r h1 => fh_ck (fh_kq S x3 14) (fh_ck (fh_in 0 (S.2.2 x3)) (fh_let (fh_sJ h1 x3 (Int32.toNatClampNeg 0) (Int32.toInt64 r)) (fun h2 => some (0, h2)))))
set_option maxHeartbeats 4000000 in
theorem k_L_told {l : Launch} {S : fh_S} {g : fh_G} {h h' : fh_H} {z : (Nat → Nat) × (Nat → Nat)} (hj : fh_inj S g) (hlt : l.stackTraces = false) {x0 x3 : Nat} {x1 x2 : Int32} {r : Int32} (ha : fh_kq S x0 11 = true) (hsp : z_L_told S h x0 x1 x2 x3 = some (r, h')) : fl_M l yL_told cL_told 5 [(0, 10, 13, 13)] 11 1 S g z [.ref (g.2.2 x0), .int x1, .int x2, .ref (g.2.2 x3)] h r h' := by
  unfold z_L_told at hsp
  refine fl_head (own := RL) (by decide) rfl hj (Nat.le_of_ble_eq_true rfl) ?_
  intro p e s m below meth c ls C EX hN htab hr hlocks hR hl
  have hl : lv_has ls 5 [(0, .ref (g.2.2 x0)), (1, .int x1), (2, .int x2), (3, .ref (g.2.2 x3))] := hl
  have hx := C.1.1
  have hb := C.1.2.1
  refine lv_aload_n hx hb dL_told_0 rfl (lv_at hl 3 rfl) ?_
  refine lv_iconst (v := 0) hx hb dL_told_1 (by decide) ?_
  refine lv_aload_n hx hb dL_told_2 rfl (lv_at hl 0 rfl) ?_
  refine lv_iload_n hx hb dL_told_3 rfl (lv_at hl 1 rfl) ?_
  refine lv_iload_n hx hb dL_told_4 rfl (lv_at hl 2 rfl) ?_
  rcases fr_flb hsp with ⟨h1, E1, hsp⟩ | ⟨h1, E1, hsp⟩ | ⟨v, h1, E1, hsp⟩
  · refine fz_xV (rest := [.int (0 : Int32), .ref (g.2.2 x3)]) C EX hR (k_X11_told C.2.2 hlt ha E1) Y_X11_told YV_X11_told Lk_RL_7 (fz_rv C hR ha ⟨_, _, rfl, by decide⟩) rfl hl.1 ⟨Nat.le_of_ble_eq_true rfl, Nat.le_of_ble_eq_true rfl⟩ rfl (Nat.le_of_ble_eq_true rfl) ⟨Nat.le_of_ble_eq_true rfl, Nat.le_of_ble_eq_true rfl⟩ dL_told_5 (fun k q ce H locs eo h1 h2 h3 hR => ?_) (fun v H locs eo hR => by cases eo)
    cases eo
    refine fl_catch1 (k := 0) (st := []) C hN htab (Or.inl rfl) Kl_RL_13 (by decide) (by decide) h1 h2 h3 ?_
    refine lv_astore (lv' := [(4, .ref q), (0, .ref (g.2.2 x0)), (1, .int x1), (2, .int x2), (3, .ref (g.2.2 x3))]) hx hb dL_told_13 hl (by decide) rfl (fun ls hl => ?_)
    refine lv_iconst (v := 1) hx hb dL_told_15 (by decide) ?_
    exact fl_iret C hr hlocks hR hsp (Nat.le_of_ble_eq_true rfl) (Nat.le_of_ble_eq_true rfl) dL_told_16
  · cases hsp
  · refine fz_xV (rest := [.int (0 : Int32), .ref (g.2.2 x3)]) C EX hR (k_X11_told C.2.2 hlt ha E1) Y_X11_told YV_X11_told Lk_RL_7 (fz_rv C hR ha ⟨_, _, rfl, by decide⟩) rfl hl.1 ⟨Nat.le_of_ble_eq_true rfl, Nat.le_of_ble_eq_true rfl⟩ rfl (Nat.le_of_ble_eq_true rfl) ⟨Nat.le_of_ble_eq_true rfl, Nat.le_of_ble_eq_true rfl⟩ dL_told_5 (fun k q ce H locs eo h1 h2 h3 hR => by cases eo) (fun v0 H locs eo hR => ?_)
    cases eo
    refine W.eq (g2 := F0 m 8 ls [.int v, .int (0 : Int32), .ref (g.2.2 x3)]) rfl ?_
    refine lv_i2l hx hb dL_told_8 rfl ?_
    obtain ⟨hk1, hsp⟩ := fr_ck hsp
    obtain ⟨hi1, hsp⟩ := fr_ck hsp
    refine fr_last C hR hk1 hi1 dL_told_9 (fun H locs hR => ?_)
    obtain ⟨h5, eh5⟩ : ∃ z, z = fh_sJ h1 x3 (Int32.toNatClampNeg 0) (Int32.toInt64 v) := ⟨_, rfl⟩
    rw [← eh5] at hR
    have hsp := fr_let eh5 hsp
    refine lv_goto (tgt := 17) hx hb dL_told_10 (by decide) ?_
    refine lv_iconst (v := 0) hx hb dL_told_17 (by decide) ?_
    exact fl_iret C hr hlocks hR hsp (Nat.le_of_ble_eq_true rfl) (Nat.le_of_ble_eq_true rfl) dL_told_18
/-! TermRowsLaw.ask(LTermRows;II[J)I -/
def z_L_ask (S : fh_S) (h : fh_H) (x0 : Nat) (x1 : Int32) (x2 : Int32) (x3 : Nat) : Option (Int32 × fh_H) :=
    fl_b (z_X11_ask S h x0 x1 x2) (some 1) none (fun r h1 => fh_ck (fh_kq S x3 14) (fh_ck (fh_in 0 (S.2.2 x3)) (fh_let (fh_sJ h1 x3 (Int32.toNatClampNeg 0) (Int32.toInt64 r)) (fun h2 => some (0, h2)))))
set_option maxHeartbeats 4000000 in
theorem k_L_ask {l : Launch} {S : fh_S} {g : fh_G} {h h' : fh_H} {z : (Nat → Nat) × (Nat → Nat)} (hj : fh_inj S g) (hlt : l.stackTraces = false) {x0 x3 : Nat} {x1 x2 : Int32} {r : Int32} (ha : fh_kq S x0 11 = true) (hsp : z_L_ask S h x0 x1 x2 x3 = some (r, h')) : fl_M l yL_ask cL_ask 5 [(0, 10, 13, 13)] 89 2 S g z [.ref (g.2.2 x0), .int x1, .int x2, .ref (g.2.2 x3)] h r h' := by
  unfold z_L_ask at hsp
  refine fl_head (own := RL) (by decide) rfl hj (Nat.le_of_ble_eq_true rfl) ?_
  intro p e s m below meth c ls C EX hN htab hr hlocks hR hl
  have hl : lv_has ls 5 [(0, .ref (g.2.2 x0)), (1, .int x1), (2, .int x2), (3, .ref (g.2.2 x3))] := hl
  have hx := C.1.1
  have hb := C.1.2.1
  refine lv_aload_n hx hb dL_ask_0 rfl (lv_at hl 3 rfl) ?_
  refine lv_iconst (v := 0) hx hb dL_ask_1 (by decide) ?_
  refine lv_aload_n hx hb dL_ask_2 rfl (lv_at hl 0 rfl) ?_
  refine lv_iload_n hx hb dL_ask_3 rfl (lv_at hl 1 rfl) ?_
  refine lv_iload_n hx hb dL_ask_4 rfl (lv_at hl 2 rfl) ?_
  rcases fr_flb hsp with ⟨h1, E1, hsp⟩ | ⟨h1, E1, hsp⟩ | ⟨v, h1, E1, hsp⟩
  · refine fz_xV (rest := [.int (0 : Int32), .ref (g.2.2 x3)]) C EX hR (k_X11_ask C.2.2 hlt ha E1) Y_X11_ask YV_X11_ask Lk_RL_15 (fz_rv C hR ha ⟨_, _, rfl, by decide⟩) rfl hl.1 ⟨Nat.le_of_ble_eq_true rfl, Nat.le_of_ble_eq_true rfl⟩ rfl (Nat.le_of_ble_eq_true rfl) ⟨Nat.le_of_ble_eq_true rfl, Nat.le_of_ble_eq_true rfl⟩ dL_ask_5 (fun k q ce H locs eo h1 h2 h3 hR => ?_) (fun v H locs eo hR => by cases eo)
    cases eo
    refine fl_catch1 (k := 0) (st := []) C hN htab (Or.inl rfl) Kl_RL_13 (by decide) (by decide) h1 h2 h3 ?_
    refine lv_astore (lv' := [(4, .ref q), (0, .ref (g.2.2 x0)), (1, .int x1), (2, .int x2), (3, .ref (g.2.2 x3))]) hx hb dL_ask_13 hl (by decide) rfl (fun ls hl => ?_)
    refine lv_iconst (v := 1) hx hb dL_ask_15 (by decide) ?_
    exact fl_iret C hr hlocks hR hsp (Nat.le_of_ble_eq_true rfl) (Nat.le_of_ble_eq_true rfl) dL_ask_16
  · cases hsp
  · refine fz_xV (rest := [.int (0 : Int32), .ref (g.2.2 x3)]) C EX hR (k_X11_ask C.2.2 hlt ha E1) Y_X11_ask YV_X11_ask Lk_RL_15 (fz_rv C hR ha ⟨_, _, rfl, by decide⟩) rfl hl.1 ⟨Nat.le_of_ble_eq_true rfl, Nat.le_of_ble_eq_true rfl⟩ rfl (Nat.le_of_ble_eq_true rfl) ⟨Nat.le_of_ble_eq_true rfl, Nat.le_of_ble_eq_true rfl⟩ dL_ask_5 (fun k q ce H locs eo h1 h2 h3 hR => by cases eo) (fun v0 H locs eo hR => ?_)
    cases eo
    refine W.eq (g2 := F0 m 8 ls [.int v, .int (0 : Int32), .ref (g.2.2 x3)]) rfl ?_
    refine lv_i2l hx hb dL_ask_8 rfl ?_
    obtain ⟨hk1, hsp⟩ := fr_ck hsp
    obtain ⟨hi1, hsp⟩ := fr_ck hsp
    refine fr_last C hR hk1 hi1 dL_ask_9 (fun H locs hR => ?_)
    obtain ⟨h5, eh5⟩ : ∃ z, z = fh_sJ h1 x3 (Int32.toNatClampNeg 0) (Int32.toInt64 v) := ⟨_, rfl⟩
    rw [← eh5] at hR
    have hsp := fr_let eh5 hsp
    refine lv_goto (tgt := 17) hx hb dL_ask_10 (by decide) ?_
    refine lv_iconst (v := 0) hx hb dL_ask_17 (by decide) ?_
    exact fl_iret C hr hlocks hR hsp (Nat.le_of_ble_eq_true rfl) (Nat.le_of_ble_eq_true rfl) dL_ask_18
/-! TermRowsLaw.count(LTermRows;I[J)I -/
def z_L_count (S : fh_S) (h : fh_H) (x0 : Nat) (x1 : Int32) (x2 : Nat) : Option (Int32 × fh_H) :=
    fl_b (z_X11_count S h x0 x1) none (some 1) (fun r h1 => fh_ck (fh_kq S x2 14) (fh_ck (fh_in 0 (S.2.2 x2)) (fh_let (fh_sJ h1 x2 (Int32.toNatClampNeg 0) (Int32.toInt64 r)) (fun h2 => some (0, h2)))))
set_option maxHeartbeats 4000000 in
theorem k_L_count {l : Launch} {S : fh_S} {g : fh_G} {h h' : fh_H} {z : (Nat → Nat) × (Nat → Nat)} (hj : fh_inj S g) (hlt : l.stackTraces = false) {x0 x2 : Nat} {x1 : Int32} {r : Int32} (ha : fh_kq S x0 11 = true) (hsp : z_L_count S h x0 x1 x2 = some (r, h')) : fl_M l yL_count cL_count 4 [(0, 9, 12, 22)] 9 5 S g z [.ref (g.2.2 x0), .int x1, .ref (g.2.2 x2)] h r h' := by
  unfold z_L_count at hsp
  refine fl_head (own := RL) (by decide) rfl hj (Nat.le_of_ble_eq_true rfl) ?_
  intro p e s m below meth c ls C EX hN htab hr hlocks hR hl
  have hl : lv_has ls 4 [(0, .ref (g.2.2 x0)), (1, .int x1), (2, .ref (g.2.2 x2))] := hl
  have hx := C.1.1
  have hb := C.1.2.1
  refine lv_aload_n hx hb dL_count_0 rfl (lv_at hl 2 rfl) ?_
  refine lv_iconst (v := 0) hx hb dL_count_1 (by decide) ?_
  refine lv_aload_n hx hb dL_count_2 rfl (lv_at hl 0 rfl) ?_
  refine lv_iload_n hx hb dL_count_3 rfl (lv_at hl 1 rfl) ?_
  rcases fr_flb hsp with ⟨h1, E1, hsp⟩ | ⟨h1, E1, hsp⟩ | ⟨v, h1, E1, hsp⟩
  · cases hsp
  · refine fz_xV (rest := [.int (0 : Int32), .ref (g.2.2 x2)]) C EX hR (k_X11_count C.2.2 hlt ha E1) Y_X11_count YV_X11_count Lk_RL_18 (fz_rv C hR ha ⟨_, _, rfl, by decide⟩) rfl hl.1 ⟨Nat.le_of_ble_eq_true rfl, Nat.le_of_ble_eq_true rfl⟩ rfl (Nat.le_of_ble_eq_true rfl) ⟨Nat.le_of_ble_eq_true rfl, Nat.le_of_ble_eq_true rfl⟩ dL_count_4 (fun k q ce H locs eo h1 h2 h3 hR => ?_) (fun v H locs eo hR => by cases eo)
    cases eo
    refine fl_catch1 (k := 1) (st := []) C hN htab (Or.inr rfl) Kl_RL_22 (by decide) (by decide) h1 h2 h3 ?_
    refine lv_astore_n (lv' := [(3, .ref q), (0, .ref (g.2.2 x0)), (1, .int x1), (2, .ref (g.2.2 x2))]) hx hb dL_count_12 rfl hl (by decide) rfl (fun ls hl => ?_)
    refine lv_iconst (v := 1) hx hb dL_count_13 (by decide) ?_
    exact fl_iret C hr hlocks hR hsp (Nat.le_of_ble_eq_true rfl) (Nat.le_of_ble_eq_true rfl) dL_count_14
  · refine fz_xV (rest := [.int (0 : Int32), .ref (g.2.2 x2)]) C EX hR (k_X11_count C.2.2 hlt ha E1) Y_X11_count YV_X11_count Lk_RL_18 (fz_rv C hR ha ⟨_, _, rfl, by decide⟩) rfl hl.1 ⟨Nat.le_of_ble_eq_true rfl, Nat.le_of_ble_eq_true rfl⟩ rfl (Nat.le_of_ble_eq_true rfl) ⟨Nat.le_of_ble_eq_true rfl, Nat.le_of_ble_eq_true rfl⟩ dL_count_4 (fun k q ce H locs eo h1 h2 h3 hR => by cases eo) (fun v0 H locs eo hR => ?_)
    cases eo
    refine W.eq (g2 := F0 m 7 ls [.int v, .int (0 : Int32), .ref (g.2.2 x2)]) rfl ?_
    refine lv_i2l hx hb dL_count_7 rfl ?_
    obtain ⟨hk1, hsp⟩ := fr_ck hsp
    obtain ⟨hi1, hsp⟩ := fr_ck hsp
    refine fr_last C hR hk1 hi1 dL_count_8 (fun H locs hR => ?_)
    obtain ⟨h5, eh5⟩ : ∃ z, z = fh_sJ h1 x2 (Int32.toNatClampNeg 0) (Int32.toInt64 v) := ⟨_, rfl⟩
    rw [← eh5] at hR
    have hsp := fr_let eh5 hsp
    refine lv_goto (tgt := 15) hx hb dL_count_9 (by decide) ?_
    refine lv_iconst (v := 0) hx hb dL_count_15 (by decide) ?_
    exact fl_iret C hr hlocks hR hsp (Nat.le_of_ble_eq_true rfl) (Nat.le_of_ble_eq_true rfl) dL_count_16
/-! TermRowsLaw.of(LTermRows;II[J)I -/
def z_L_of (S : fh_S) (h : fh_H) (x0 : Nat) (x1 : Int32) (x2 : Int32) (x3 : Nat) : Option (Int32 × fh_H) :=
    fl_b (z_X11_of S h x0 x1 x2) none (some 1) (fun r h1 => fh_ck (fh_kq S x3 14) (fh_ck (fh_in 0 (S.2.2 x3)) (fh_let (fh_sJ h1 x3 (Int32.toNatClampNeg 0) (Int32.toInt64 r)) (fun h2 => some (0, h2)))))
set_option maxHeartbeats 4000000 in
theorem k_L_of {l : Launch} {S : fh_S} {g : fh_G} {h h' : fh_H} {z : (Nat → Nat) × (Nat → Nat)} (hj : fh_inj S g) (hlt : l.stackTraces = false) {x0 x3 : Nat} {x1 x2 : Int32} {r : Int32} (ha : fh_kq S x0 11 = true) (hsp : z_L_of S h x0 x1 x2 x3 = some (r, h')) : fl_M l yL_of cL_of 5 [(0, 10, 13, 22)] 8 2 S g z [.ref (g.2.2 x0), .int x1, .int x2, .ref (g.2.2 x3)] h r h' := by
  unfold z_L_of at hsp
  refine fl_head (own := RL) (by decide) rfl hj (Nat.le_of_ble_eq_true rfl) ?_
  intro p e s m below meth c ls C EX hN htab hr hlocks hR hl
  have hl : lv_has ls 5 [(0, .ref (g.2.2 x0)), (1, .int x1), (2, .int x2), (3, .ref (g.2.2 x3))] := hl
  have hx := C.1.1
  have hb := C.1.2.1
  refine lv_aload_n hx hb dL_of_0 rfl (lv_at hl 3 rfl) ?_
  refine lv_iconst (v := 0) hx hb dL_of_1 (by decide) ?_
  refine lv_aload_n hx hb dL_of_2 rfl (lv_at hl 0 rfl) ?_
  refine lv_iload_n hx hb dL_of_3 rfl (lv_at hl 1 rfl) ?_
  refine lv_iload_n hx hb dL_of_4 rfl (lv_at hl 2 rfl) ?_
  rcases fr_flb hsp with ⟨h1, E1, hsp⟩ | ⟨h1, E1, hsp⟩ | ⟨v, h1, E1, hsp⟩
  · cases hsp
  · refine fz_xV (rest := [.int (0 : Int32), .ref (g.2.2 x3)]) C EX hR (k_X11_of C.2.2 hlt ha E1) Y_X11_of YV_X11_of Lk_RL_24 (fz_rv C hR ha ⟨_, _, rfl, by decide⟩) rfl hl.1 ⟨Nat.le_of_ble_eq_true rfl, Nat.le_of_ble_eq_true rfl⟩ rfl (Nat.le_of_ble_eq_true rfl) ⟨Nat.le_of_ble_eq_true rfl, Nat.le_of_ble_eq_true rfl⟩ dL_of_5 (fun k q ce H locs eo h1 h2 h3 hR => ?_) (fun v H locs eo hR => by cases eo)
    cases eo
    refine fl_catch1 (k := 1) (st := []) C hN htab (Or.inr rfl) Kl_RL_22 (by decide) (by decide) h1 h2 h3 ?_
    refine lv_astore (lv' := [(4, .ref q), (0, .ref (g.2.2 x0)), (1, .int x1), (2, .int x2), (3, .ref (g.2.2 x3))]) hx hb dL_of_13 hl (by decide) rfl (fun ls hl => ?_)
    refine lv_iconst (v := 1) hx hb dL_of_15 (by decide) ?_
    exact fl_iret C hr hlocks hR hsp (Nat.le_of_ble_eq_true rfl) (Nat.le_of_ble_eq_true rfl) dL_of_16
  · refine fz_xV (rest := [.int (0 : Int32), .ref (g.2.2 x3)]) C EX hR (k_X11_of C.2.2 hlt ha E1) Y_X11_of YV_X11_of Lk_RL_24 (fz_rv C hR ha ⟨_, _, rfl, by decide⟩) rfl hl.1 ⟨Nat.le_of_ble_eq_true rfl, Nat.le_of_ble_eq_true rfl⟩ rfl (Nat.le_of_ble_eq_true rfl) ⟨Nat.le_of_ble_eq_true rfl, Nat.le_of_ble_eq_true rfl⟩ dL_of_5 (fun k q ce H locs eo h1 h2 h3 hR => by cases eo) (fun v0 H locs eo hR => ?_)
    cases eo
    refine W.eq (g2 := F0 m 8 ls [.int v, .int (0 : Int32), .ref (g.2.2 x3)]) rfl ?_
    refine lv_i2l hx hb dL_of_8 rfl ?_
    obtain ⟨hk1, hsp⟩ := fr_ck hsp
    obtain ⟨hi1, hsp⟩ := fr_ck hsp
    refine fr_last C hR hk1 hi1 dL_of_9 (fun H locs hR => ?_)
    obtain ⟨h5, eh5⟩ : ∃ z, z = fh_sJ h1 x3 (Int32.toNatClampNeg 0) (Int32.toInt64 v) := ⟨_, rfl⟩
    rw [← eh5] at hR
    have hsp := fr_let eh5 hsp
    refine lv_goto (tgt := 17) hx hb dL_of_10 (by decide) ?_
    refine lv_iconst (v := 0) hx hb dL_of_17 (by decide) ?_
    exact fl_iret C hr hlocks hR hsp (Nat.le_of_ble_eq_true rfl) (Nat.le_of_ble_eq_true rfl) dL_of_18
/-! TermRowsLaw.term(LTermRows;II[J)I -/
def z_L_term (S : fh_S) (h : fh_H) (x0 : Nat) (x1 : Int32) (x2 : Int32) (x3 : Nat) : Option (Int32 × fh_H) :=
    fl_b (z_X11_term S h x0 x1 x2) none (some 1) (fun r h1 => fh_ck (fh_kq S x3 14) (fh_ck (fh_in 0 (S.2.2 x3)) (fh_let (fh_sJ h1 x3 (Int32.toNatClampNeg 0) (Int32.toInt64 r)) (fun h2 => some (0, h2)))))
set_option maxHeartbeats 4000000 in
theorem k_L_term {l : Launch} {S : fh_S} {g : fh_G} {h h' : fh_H} {z : (Nat → Nat) × (Nat → Nat)} (hj : fh_inj S g) (hlt : l.stackTraces = false) {x0 x3 : Nat} {x1 x2 : Int32} {r : Int32} (ha : fh_kq S x0 11 = true) (hsp : z_L_term S h x0 x1 x2 x3 = some (r, h')) : fl_M l yL_term cL_term 5 [(0, 10, 13, 22)] 8 2 S g z [.ref (g.2.2 x0), .int x1, .int x2, .ref (g.2.2 x3)] h r h' := by
  unfold z_L_term at hsp
  refine fl_head (own := RL) (by decide) rfl hj (Nat.le_of_ble_eq_true rfl) ?_
  intro p e s m below meth c ls C EX hN htab hr hlocks hR hl
  have hl : lv_has ls 5 [(0, .ref (g.2.2 x0)), (1, .int x1), (2, .int x2), (3, .ref (g.2.2 x3))] := hl
  have hx := C.1.1
  have hb := C.1.2.1
  refine lv_aload_n hx hb dL_term_0 rfl (lv_at hl 3 rfl) ?_
  refine lv_iconst (v := 0) hx hb dL_term_1 (by decide) ?_
  refine lv_aload_n hx hb dL_term_2 rfl (lv_at hl 0 rfl) ?_
  refine lv_iload_n hx hb dL_term_3 rfl (lv_at hl 1 rfl) ?_
  refine lv_iload_n hx hb dL_term_4 rfl (lv_at hl 2 rfl) ?_
  rcases fr_flb hsp with ⟨h1, E1, hsp⟩ | ⟨h1, E1, hsp⟩ | ⟨v, h1, E1, hsp⟩
  · cases hsp
  · refine fz_xV (rest := [.int (0 : Int32), .ref (g.2.2 x3)]) C EX hR (k_X11_term C.2.2 hlt ha E1) Y_X11_term YV_X11_term Lk_RL_27 (fz_rv C hR ha ⟨_, _, rfl, by decide⟩) rfl hl.1 ⟨Nat.le_of_ble_eq_true rfl, Nat.le_of_ble_eq_true rfl⟩ rfl (Nat.le_of_ble_eq_true rfl) ⟨Nat.le_of_ble_eq_true rfl, Nat.le_of_ble_eq_true rfl⟩ dL_term_5 (fun k q ce H locs eo h1 h2 h3 hR => ?_) (fun v H locs eo hR => by cases eo)
    cases eo
    refine fl_catch1 (k := 1) (st := []) C hN htab (Or.inr rfl) Kl_RL_22 (by decide) (by decide) h1 h2 h3 ?_
    refine lv_astore (lv' := [(4, .ref q), (0, .ref (g.2.2 x0)), (1, .int x1), (2, .int x2), (3, .ref (g.2.2 x3))]) hx hb dL_term_13 hl (by decide) rfl (fun ls hl => ?_)
    refine lv_iconst (v := 1) hx hb dL_term_15 (by decide) ?_
    exact fl_iret C hr hlocks hR hsp (Nat.le_of_ble_eq_true rfl) (Nat.le_of_ble_eq_true rfl) dL_term_16
  · refine fz_xV (rest := [.int (0 : Int32), .ref (g.2.2 x3)]) C EX hR (k_X11_term C.2.2 hlt ha E1) Y_X11_term YV_X11_term Lk_RL_27 (fz_rv C hR ha ⟨_, _, rfl, by decide⟩) rfl hl.1 ⟨Nat.le_of_ble_eq_true rfl, Nat.le_of_ble_eq_true rfl⟩ rfl (Nat.le_of_ble_eq_true rfl) ⟨Nat.le_of_ble_eq_true rfl, Nat.le_of_ble_eq_true rfl⟩ dL_term_5 (fun k q ce H locs eo h1 h2 h3 hR => by cases eo) (fun v0 H locs eo hR => ?_)
    cases eo
    refine W.eq (g2 := F0 m 8 ls [.int v, .int (0 : Int32), .ref (g.2.2 x3)]) rfl ?_
    refine lv_i2l hx hb dL_term_8 rfl ?_
    obtain ⟨hk1, hsp⟩ := fr_ck hsp
    obtain ⟨hi1, hsp⟩ := fr_ck hsp
    refine fr_last C hR hk1 hi1 dL_term_9 (fun H locs hR => ?_)
    obtain ⟨h5, eh5⟩ : ∃ z, z = fh_sJ h1 x3 (Int32.toNatClampNeg 0) (Int32.toInt64 v) := ⟨_, rfl⟩
    rw [← eh5] at hR
    have hsp := fr_let eh5 hsp
    refine lv_goto (tgt := 17) hx hb dL_term_10 (by decide) ?_
    refine lv_iconst (v := 0) hx hb dL_term_17 (by decide) ?_
    exact fl_iret C hr hlocks hR hsp (Nat.le_of_ble_eq_true rfl) (Nat.le_of_ble_eq_true rfl) dL_term_18
/-! TermRowsLaw.read(LTermRows;IIZ[J)I -/
def z_L_read (S : fh_S) (h : fh_H) (x0 : Nat) (x1 : Int32) (x2 : Int32) (x3 : Int32) (x4 : Nat) : Option (Int32 × fh_H) :=
    fl_b (z_X11_read S h x0 x1 x2 x3) none (some 1) (fun r h1 => fh_ck (fh_kq S x4 14) (fh_ck (fh_in 0 (S.2.2 x4)) (fh_let (fh_sJ h1 x4 (Int32.toNatClampNeg 0) (Int32.toInt64 r)) (fun h2 => some (0, h2)))))
set_option maxHeartbeats 4000000 in
theorem k_L_read {l : Launch} {S : fh_S} {g : fh_G} {h h' : fh_H} {z : (Nat → Nat) × (Nat → Nat)} (hj : fh_inj S g) (hlt : l.stackTraces = false) {x0 x4 : Nat} {x1 x2 x3 : Int32} {r : Int32} (ha : fh_kq S x0 11 = true) (hsp : z_L_read S h x0 x1 x2 x3 x4 = some (r, h')) : fl_M l yL_read cL_read 6 [(0, 12, 15, 22)] 8 3 S g z [.ref (g.2.2 x0), .int x1, .int x2, .int x3, .ref (g.2.2 x4)] h r h' := by
  unfold z_L_read at hsp
  refine fl_head (own := RL) (by decide) rfl hj (Nat.le_of_ble_eq_true rfl) ?_
  intro p e s m below meth c ls C EX hN htab hr hlocks hR hl
  have hl : lv_has ls 6 [(0, .ref (g.2.2 x0)), (1, .int x1), (2, .int x2), (3, .int x3), (4, .ref (g.2.2 x4))] := hl
  have hx := C.1.1
  have hb := C.1.2.1
  refine lv_aload hx hb dL_read_0 (lv_at hl 4 rfl) ?_
  refine lv_iconst (v := 0) hx hb dL_read_2 (by decide) ?_
  refine lv_aload_n hx hb dL_read_3 rfl (lv_at hl 0 rfl) ?_
  refine lv_iload_n hx hb dL_read_4 rfl (lv_at hl 1 rfl) ?_
  refine lv_iload_n hx hb dL_read_5 rfl (lv_at hl 2 rfl) ?_
  refine lv_iload_n hx hb dL_read_6 rfl (lv_at hl 3 rfl) ?_
  rcases fr_flb hsp with ⟨h1, E1, hsp⟩ | ⟨h1, E1, hsp⟩ | ⟨v, h1, E1, hsp⟩
  · cases hsp
  · refine fz_xV (rest := [.int (0 : Int32), .ref (g.2.2 x4)]) C EX hR (k_X11_read C.2.2 hlt ha E1) Y_X11_read YV_X11_read Lk_RL_30 (fz_rv C hR ha ⟨_, _, rfl, by decide⟩) rfl hl.1 ⟨Nat.le_of_ble_eq_true rfl, Nat.le_of_ble_eq_true rfl⟩ rfl (Nat.le_of_ble_eq_true rfl) ⟨Nat.le_of_ble_eq_true rfl, Nat.le_of_ble_eq_true rfl⟩ dL_read_7 (fun k q ce H locs eo h1 h2 h3 hR => ?_) (fun v H locs eo hR => by cases eo)
    cases eo
    refine fl_catch1 (k := 1) (st := []) C hN htab (Or.inr rfl) Kl_RL_22 (by decide) (by decide) h1 h2 h3 ?_
    refine lv_astore (lv' := [(5, .ref q), (0, .ref (g.2.2 x0)), (1, .int x1), (2, .int x2), (3, .int x3), (4, .ref (g.2.2 x4))]) hx hb dL_read_15 hl (by decide) rfl (fun ls hl => ?_)
    refine lv_iconst (v := 1) hx hb dL_read_17 (by decide) ?_
    exact fl_iret C hr hlocks hR hsp (Nat.le_of_ble_eq_true rfl) (Nat.le_of_ble_eq_true rfl) dL_read_18
  · refine fz_xV (rest := [.int (0 : Int32), .ref (g.2.2 x4)]) C EX hR (k_X11_read C.2.2 hlt ha E1) Y_X11_read YV_X11_read Lk_RL_30 (fz_rv C hR ha ⟨_, _, rfl, by decide⟩) rfl hl.1 ⟨Nat.le_of_ble_eq_true rfl, Nat.le_of_ble_eq_true rfl⟩ rfl (Nat.le_of_ble_eq_true rfl) ⟨Nat.le_of_ble_eq_true rfl, Nat.le_of_ble_eq_true rfl⟩ dL_read_7 (fun k q ce H locs eo h1 h2 h3 hR => by cases eo) (fun v0 H locs eo hR => ?_)
    cases eo
    refine W.eq (g2 := F0 m 10 ls [.int v, .int (0 : Int32), .ref (g.2.2 x4)]) rfl ?_
    refine lv_i2l hx hb dL_read_10 rfl ?_
    obtain ⟨hk1, hsp⟩ := fr_ck hsp
    obtain ⟨hi1, hsp⟩ := fr_ck hsp
    refine fr_last C hR hk1 hi1 dL_read_11 (fun H locs hR => ?_)
    obtain ⟨h5, eh5⟩ : ∃ z, z = fh_sJ h1 x4 (Int32.toNatClampNeg 0) (Int32.toInt64 v) := ⟨_, rfl⟩
    rw [← eh5] at hR
    have hsp := fr_let eh5 hsp
    refine lv_goto (tgt := 19) hx hb dL_read_12 (by decide) ?_
    refine lv_iconst (v := 0) hx hb dL_read_19 (by decide) ?_
    exact fl_iret C hr hlocks hR hsp (Nat.le_of_ble_eq_true rfl) (Nat.le_of_ble_eq_true rfl) dL_read_20
/-! TermRowsLaw.convergent(LTermRows;IIZ[J)I -/
def z_L_convergent (S : fh_S) (h : fh_H) (x0 : Nat) (x1 : Int32) (x2 : Int32) (x3 : Int32) (x4 : Nat) : Option (Int32 × fh_H) :=
    fl_b (z_X11_convergent S h x0 x1 x2 x3) none (some 1) (fun r h1 => fh_ck (fh_kq S x4 14) (fh_ck (fh_in 0 (S.2.2 x4)) (fh_let (fh_sJ h1 x4 (Int32.toNatClampNeg 0) r) (fun h2 => some (0, h2)))))
set_option maxHeartbeats 4000000 in
theorem k_L_convergent {l : Launch} {S : fh_S} {g : fh_G} {h h' : fh_H} {z : (Nat → Nat) × (Nat → Nat)} (hj : fh_inj S g) (hlt : l.stackTraces = false) {x0 x4 : Nat} {x1 x2 x3 : Int32} {r : Int32} (ha : fh_kq S x0 11 = true) (hsp : z_L_convergent S h x0 x1 x2 x3 x4 = some (r, h')) : fl_M l yL_convergent cL_convergent 6 [(0, 11, 14, 22)] 8 2 S g z [.ref (g.2.2 x0), .int x1, .int x2, .int x3, .ref (g.2.2 x4)] h r h' := by
  unfold z_L_convergent at hsp
  refine fl_head (own := RL) (by decide) rfl hj (Nat.le_of_ble_eq_true rfl) ?_
  intro p e s m below meth c ls C EX hN htab hr hlocks hR hl
  have hl : lv_has ls 6 [(0, .ref (g.2.2 x0)), (1, .int x1), (2, .int x2), (3, .int x3), (4, .ref (g.2.2 x4))] := hl
  have hx := C.1.1
  have hb := C.1.2.1
  refine lv_aload hx hb dL_convergent_0 (lv_at hl 4 rfl) ?_
  refine lv_iconst (v := 0) hx hb dL_convergent_2 (by decide) ?_
  refine lv_aload_n hx hb dL_convergent_3 rfl (lv_at hl 0 rfl) ?_
  refine lv_iload_n hx hb dL_convergent_4 rfl (lv_at hl 1 rfl) ?_
  refine lv_iload_n hx hb dL_convergent_5 rfl (lv_at hl 2 rfl) ?_
  refine lv_iload_n hx hb dL_convergent_6 rfl (lv_at hl 3 rfl) ?_
  rcases fr_flb hsp with ⟨h1, E1, hsp⟩ | ⟨h1, E1, hsp⟩ | ⟨v, h1, E1, hsp⟩
  · cases hsp
  · refine fz_xV (rest := [.int (0 : Int32), .ref (g.2.2 x4)]) C EX hR (k_X11_convergent C.2.2 hlt ha E1) Y_X11_convergent YV_X11_convergent Lk_RL_34 (fz_rv C hR ha ⟨_, _, rfl, by decide⟩) rfl hl.1 ⟨Nat.le_of_ble_eq_true rfl, Nat.le_of_ble_eq_true rfl⟩ rfl (Nat.le_of_ble_eq_true rfl) ⟨Nat.le_of_ble_eq_true rfl, Nat.le_of_ble_eq_true rfl⟩ dL_convergent_7 (fun k q ce H locs eo h1 h2 h3 hR => ?_) (fun v H locs eo hR => by cases eo)
    cases eo
    refine fl_catch1 (k := 1) (st := []) C hN htab (Or.inr rfl) Kl_RL_22 (by decide) (by decide) h1 h2 h3 ?_
    refine lv_astore (lv' := [(5, .ref q), (0, .ref (g.2.2 x0)), (1, .int x1), (2, .int x2), (3, .int x3), (4, .ref (g.2.2 x4))]) hx hb dL_convergent_14 hl (by decide) rfl (fun ls hl => ?_)
    refine lv_iconst (v := 1) hx hb dL_convergent_16 (by decide) ?_
    exact fl_iret C hr hlocks hR hsp (Nat.le_of_ble_eq_true rfl) (Nat.le_of_ble_eq_true rfl) dL_convergent_17
  · refine fz_xV (rest := [.int (0 : Int32), .ref (g.2.2 x4)]) C EX hR (k_X11_convergent C.2.2 hlt ha E1) Y_X11_convergent YV_X11_convergent Lk_RL_34 (fz_rv C hR ha ⟨_, _, rfl, by decide⟩) rfl hl.1 ⟨Nat.le_of_ble_eq_true rfl, Nat.le_of_ble_eq_true rfl⟩ rfl (Nat.le_of_ble_eq_true rfl) ⟨Nat.le_of_ble_eq_true rfl, Nat.le_of_ble_eq_true rfl⟩ dL_convergent_7 (fun k q ce H locs eo h1 h2 h3 hR => by cases eo) (fun v0 H locs eo hR => ?_)
    cases eo
    refine W.eq (g2 := F0 m 10 ls [.long v, .int (0 : Int32), .ref (g.2.2 x4)]) rfl ?_
    obtain ⟨hk1, hsp⟩ := fr_ck hsp
    obtain ⟨hi1, hsp⟩ := fr_ck hsp
    refine fr_last C hR hk1 hi1 dL_convergent_10 (fun H locs hR => ?_)
    obtain ⟨h5, eh5⟩ : ∃ z, z = fh_sJ h1 x4 (Int32.toNatClampNeg 0) v := ⟨_, rfl⟩
    rw [← eh5] at hR
    have hsp := fr_let eh5 hsp
    refine lv_goto (tgt := 18) hx hb dL_convergent_11 (by decide) ?_
    refine lv_iconst (v := 0) hx hb dL_convergent_18 (by decide) ?_
    exact fl_iret C hr hlocks hR hsp (Nat.le_of_ble_eq_true rfl) (Nat.le_of_ble_eq_true rfl) dL_convergent_19
/-! TermRowsLaw.nearest(LTermRows;II[J)I -/
def z_L_nearest (S : fh_S) (h : fh_H) (x0 : Nat) (x1 : Int32) (x2 : Int32) (x3 : Nat) : Option (Int32 × fh_H) :=
    fl_b (z_X11_nearest S h x0 x1 x2) (some 2) (some 1) (fun r h1 => fh_ck (fh_kq S x3 14) (fh_ck (fh_in 0 (S.2.2 x3)) (fh_let (fh_sJ h1 x3 (Int32.toNatClampNeg 0) (Int32.toInt64 r)) (fun h2 => some (0, h2)))))
set_option maxHeartbeats 4000000 in
theorem k_L_nearest {l : Launch} {S : fh_S} {g : fh_G} {h h' : fh_H} {z : (Nat → Nat) × (Nat → Nat)} (hj : fh_inj S g) (hlt : l.stackTraces = false) {x0 x3 : Nat} {x1 x2 : Int32} {r : Int32} (ha : fh_kq S x0 11 = true) (hsp : z_L_nearest S h x0 x1 x2 x3 = some (r, h')) : fl_M l yL_nearest cL_nearest 5 [(0, 10, 13, 22), (0, 10, 17, 13)] 8 3 S g z [.ref (g.2.2 x0), .int x1, .int x2, .ref (g.2.2 x3)] h r h' := by
  unfold z_L_nearest at hsp
  refine fl_head (own := RL) (by decide) rfl hj (Nat.le_of_ble_eq_true rfl) ?_
  intro p e s m below meth c ls C EX hN htab hr hlocks hR hl
  have hl : lv_has ls 5 [(0, .ref (g.2.2 x0)), (1, .int x1), (2, .int x2), (3, .ref (g.2.2 x3))] := hl
  have hx := C.1.1
  have hb := C.1.2.1
  refine lv_aload_n hx hb dL_nearest_0 rfl (lv_at hl 3 rfl) ?_
  refine lv_iconst (v := 0) hx hb dL_nearest_1 (by decide) ?_
  refine lv_aload_n hx hb dL_nearest_2 rfl (lv_at hl 0 rfl) ?_
  refine lv_iload_n hx hb dL_nearest_3 rfl (lv_at hl 1 rfl) ?_
  refine lv_iload_n hx hb dL_nearest_4 rfl (lv_at hl 2 rfl) ?_
  rcases fr_flb hsp with ⟨h1, E1, hsp⟩ | ⟨h1, E1, hsp⟩ | ⟨v, h1, E1, hsp⟩
  · refine fz_xV (rest := [.int (0 : Int32), .ref (g.2.2 x3)]) C EX hR (k_X11_nearest C.2.2 hlt ha E1) Y_X11_nearest YV_X11_nearest Lk_RL_38 (fz_rv C hR ha ⟨_, _, rfl, by decide⟩) rfl hl.1 ⟨Nat.le_of_ble_eq_true rfl, Nat.le_of_ble_eq_true rfl⟩ rfl (Nat.le_of_ble_eq_true rfl) ⟨Nat.le_of_ble_eq_true rfl, Nat.le_of_ble_eq_true rfl⟩ dL_nearest_5 (fun k q ce H locs eo h1 h2 h3 hR => ?_) (fun v H locs eo hR => by cases eo)
    cases eo
    refine fl_catch2 C hN htab Kl_RL_22 Kl_RL_13 (by decide) (by decide) (by decide) h1 h2 h3 ?_
    refine lv_astore (lv' := [(4, .ref q), (0, .ref (g.2.2 x0)), (1, .int x1), (2, .int x2), (3, .ref (g.2.2 x3))]) hx hb dL_nearest_17 hl (by decide) rfl (fun ls hl => ?_)
    refine lv_iconst (v := 2) hx hb dL_nearest_19 (by decide) ?_
    exact fl_iret C hr hlocks hR hsp (Nat.le_of_ble_eq_true rfl) (Nat.le_of_ble_eq_true rfl) dL_nearest_20
  · refine fz_xV (rest := [.int (0 : Int32), .ref (g.2.2 x3)]) C EX hR (k_X11_nearest C.2.2 hlt ha E1) Y_X11_nearest YV_X11_nearest Lk_RL_38 (fz_rv C hR ha ⟨_, _, rfl, by decide⟩) rfl hl.1 ⟨Nat.le_of_ble_eq_true rfl, Nat.le_of_ble_eq_true rfl⟩ rfl (Nat.le_of_ble_eq_true rfl) ⟨Nat.le_of_ble_eq_true rfl, Nat.le_of_ble_eq_true rfl⟩ dL_nearest_5 (fun k q ce H locs eo h1 h2 h3 hR => ?_) (fun v H locs eo hR => by cases eo)
    cases eo
    refine fl_catch1 (k := 1) (st := [(0, 10, 17, 13)]) C hN htab (Or.inr rfl) Kl_RL_22 (by decide) (by decide) h1 h2 h3 ?_
    refine lv_astore (lv' := [(4, .ref q), (0, .ref (g.2.2 x0)), (1, .int x1), (2, .int x2), (3, .ref (g.2.2 x3))]) hx hb dL_nearest_13 hl (by decide) rfl (fun ls hl => ?_)
    refine lv_iconst (v := 1) hx hb dL_nearest_15 (by decide) ?_
    exact fl_iret C hr hlocks hR hsp (Nat.le_of_ble_eq_true rfl) (Nat.le_of_ble_eq_true rfl) dL_nearest_16
  · refine fz_xV (rest := [.int (0 : Int32), .ref (g.2.2 x3)]) C EX hR (k_X11_nearest C.2.2 hlt ha E1) Y_X11_nearest YV_X11_nearest Lk_RL_38 (fz_rv C hR ha ⟨_, _, rfl, by decide⟩) rfl hl.1 ⟨Nat.le_of_ble_eq_true rfl, Nat.le_of_ble_eq_true rfl⟩ rfl (Nat.le_of_ble_eq_true rfl) ⟨Nat.le_of_ble_eq_true rfl, Nat.le_of_ble_eq_true rfl⟩ dL_nearest_5 (fun k q ce H locs eo h1 h2 h3 hR => by cases eo) (fun v0 H locs eo hR => ?_)
    cases eo
    refine W.eq (g2 := F0 m 8 ls [.int v, .int (0 : Int32), .ref (g.2.2 x3)]) rfl ?_
    refine lv_i2l hx hb dL_nearest_8 rfl ?_
    obtain ⟨hk1, hsp⟩ := fr_ck hsp
    obtain ⟨hi1, hsp⟩ := fr_ck hsp
    refine fr_last C hR hk1 hi1 dL_nearest_9 (fun H locs hR => ?_)
    obtain ⟨h5, eh5⟩ : ∃ z, z = fh_sJ h1 x3 (Int32.toNatClampNeg 0) (Int32.toInt64 v) := ⟨_, rfl⟩
    rw [← eh5] at hR
    have hsp := fr_let eh5 hsp
    refine lv_goto (tgt := 21) hx hb dL_nearest_10 (by decide) ?_
    refine lv_iconst (v := 0) hx hb dL_nearest_21 (by decide) ?_
    exact fl_iret C hr hlocks hR hsp (Nat.le_of_ble_eq_true rfl) (Nat.le_of_ble_eq_true rfl) dL_nearest_22
/-! TermRowsLaw.mediant(LTermRows;IIIZ[J)I -/
def z_L_mediant (S : fh_S) (h : fh_H) (x0 : Nat) (x1 : Int32) (x2 : Int32) (x3 : Int32) (x4 : Int32) (x5 : Nat) : Option (Int32 × fh_H) :=
    fl_b (z_X11_mediant S h x0 x1 x2 x3 x4) none (some 1) (fun r h1 => fh_ck (fh_kq S x5 14) (fh_ck (fh_in 0 (S.2.2 x5)) (fh_let (fh_sJ h1 x5 (Int32.toNatClampNeg 0) r) (fun h2 => some (0, h2)))))
set_option maxHeartbeats 4000000 in
theorem k_L_mediant {l : Launch} {S : fh_S} {g : fh_G} {h h' : fh_H} {z : (Nat → Nat) × (Nat → Nat)} (hj : fh_inj S g) (hlt : l.stackTraces = false) {x0 x5 : Nat} {x1 x2 x3 x4 : Int32} {r : Int32} (ha : fh_kq S x0 11 = true) (hsp : z_L_mediant S h x0 x1 x2 x3 x4 x5 = some (r, h')) : fl_M l yL_mediant cL_mediant 7 [(0, 13, 16, 22)] 8 2 S g z [.ref (g.2.2 x0), .int x1, .int x2, .int x3, .int x4, .ref (g.2.2 x5)] h r h' := by
  unfold z_L_mediant at hsp
  refine fl_head (own := RL) (by decide) rfl hj (Nat.le_of_ble_eq_true rfl) ?_
  intro p e s m below meth c ls C EX hN htab hr hlocks hR hl
  have hl : lv_has ls 7 [(0, .ref (g.2.2 x0)), (1, .int x1), (2, .int x2), (3, .int x3), (4, .int x4), (5, .ref (g.2.2 x5))] := hl
  have hx := C.1.1
  have hb := C.1.2.1
  refine lv_aload hx hb dL_mediant_0 (lv_at hl 5 rfl) ?_
  refine lv_iconst (v := 0) hx hb dL_mediant_2 (by decide) ?_
  refine lv_aload_n hx hb dL_mediant_3 rfl (lv_at hl 0 rfl) ?_
  refine lv_iload_n hx hb dL_mediant_4 rfl (lv_at hl 1 rfl) ?_
  refine lv_iload_n hx hb dL_mediant_5 rfl (lv_at hl 2 rfl) ?_
  refine lv_iload_n hx hb dL_mediant_6 rfl (lv_at hl 3 rfl) ?_
  refine lv_iload hx hb dL_mediant_7 (lv_at hl 4 rfl) ?_
  rcases fr_flb hsp with ⟨h1, E1, hsp⟩ | ⟨h1, E1, hsp⟩ | ⟨v, h1, E1, hsp⟩
  · cases hsp
  · refine fz_xV (rest := [.int (0 : Int32), .ref (g.2.2 x5)]) C EX hR (k_X11_mediant C.2.2 hlt ha E1) Y_X11_mediant YV_X11_mediant Lk_RL_41 (fz_rv C hR ha ⟨_, _, rfl, by decide⟩) rfl hl.1 ⟨Nat.le_of_ble_eq_true rfl, Nat.le_of_ble_eq_true rfl⟩ rfl (Nat.le_of_ble_eq_true rfl) ⟨Nat.le_of_ble_eq_true rfl, Nat.le_of_ble_eq_true rfl⟩ dL_mediant_9 (fun k q ce H locs eo h1 h2 h3 hR => ?_) (fun v H locs eo hR => by cases eo)
    cases eo
    refine fl_catch1 (k := 1) (st := []) C hN htab (Or.inr rfl) Kl_RL_22 (by decide) (by decide) h1 h2 h3 ?_
    refine lv_astore (lv' := [(6, .ref q), (0, .ref (g.2.2 x0)), (1, .int x1), (2, .int x2), (3, .int x3), (4, .int x4), (5, .ref (g.2.2 x5))]) hx hb dL_mediant_16 hl (by decide) rfl (fun ls hl => ?_)
    refine lv_iconst (v := 1) hx hb dL_mediant_18 (by decide) ?_
    exact fl_iret C hr hlocks hR hsp (Nat.le_of_ble_eq_true rfl) (Nat.le_of_ble_eq_true rfl) dL_mediant_19
  · refine fz_xV (rest := [.int (0 : Int32), .ref (g.2.2 x5)]) C EX hR (k_X11_mediant C.2.2 hlt ha E1) Y_X11_mediant YV_X11_mediant Lk_RL_41 (fz_rv C hR ha ⟨_, _, rfl, by decide⟩) rfl hl.1 ⟨Nat.le_of_ble_eq_true rfl, Nat.le_of_ble_eq_true rfl⟩ rfl (Nat.le_of_ble_eq_true rfl) ⟨Nat.le_of_ble_eq_true rfl, Nat.le_of_ble_eq_true rfl⟩ dL_mediant_9 (fun k q ce H locs eo h1 h2 h3 hR => by cases eo) (fun v0 H locs eo hR => ?_)
    cases eo
    refine W.eq (g2 := F0 m 12 ls [.long v, .int (0 : Int32), .ref (g.2.2 x5)]) rfl ?_
    obtain ⟨hk1, hsp⟩ := fr_ck hsp
    obtain ⟨hi1, hsp⟩ := fr_ck hsp
    refine fr_last C hR hk1 hi1 dL_mediant_12 (fun H locs hR => ?_)
    obtain ⟨h5, eh5⟩ : ∃ z, z = fh_sJ h1 x5 (Int32.toNatClampNeg 0) v := ⟨_, rfl⟩
    rw [← eh5] at hR
    have hsp := fr_let eh5 hsp
    refine lv_goto (tgt := 20) hx hb dL_mediant_13 (by decide) ?_
    refine lv_iconst (v := 0) hx hb dL_mediant_20 (by decide) ?_
    exact fl_iret C hr hlocks hR hsp (Nat.le_of_ble_eq_true rfl) (Nat.le_of_ble_eq_true rfl) dL_mediant_21
/-! TermRowsLaw.compare(LTermRows;II[J)I -/
def z_L_compare (S : fh_S) (h : fh_H) (x0 : Nat) (x1 : Int32) (x2 : Int32) (x3 : Nat) : Option (Int32 × fh_H) :=
    fl_b (z_X11_compare S h x0 x1 x2) none (some 1) (fun r h1 => fh_ck (fh_kq S x3 14) (fh_ck (fh_in 0 (S.2.2 x3)) (fh_let (fh_sJ h1 x3 (Int32.toNatClampNeg 0) (Int32.toInt64 r)) (fun h2 => some (0, h2)))))
set_option maxHeartbeats 4000000 in
theorem k_L_compare {l : Launch} {S : fh_S} {g : fh_G} {h h' : fh_H} {z : (Nat → Nat) × (Nat → Nat)} (hj : fh_inj S g) (hlt : l.stackTraces = false) {x0 x3 : Nat} {x1 x2 : Int32} {r : Int32} (ha : fh_kq S x0 11 = true) (hsp : z_L_compare S h x0 x1 x2 x3 = some (r, h')) : fl_M l yL_compare cL_compare 5 [(0, 10, 13, 22)] 8 2 S g z [.ref (g.2.2 x0), .int x1, .int x2, .ref (g.2.2 x3)] h r h' := by
  unfold z_L_compare at hsp
  refine fl_head (own := RL) (by decide) rfl hj (Nat.le_of_ble_eq_true rfl) ?_
  intro p e s m below meth c ls C EX hN htab hr hlocks hR hl
  have hl : lv_has ls 5 [(0, .ref (g.2.2 x0)), (1, .int x1), (2, .int x2), (3, .ref (g.2.2 x3))] := hl
  have hx := C.1.1
  have hb := C.1.2.1
  refine lv_aload_n hx hb dL_compare_0 rfl (lv_at hl 3 rfl) ?_
  refine lv_iconst (v := 0) hx hb dL_compare_1 (by decide) ?_
  refine lv_aload_n hx hb dL_compare_2 rfl (lv_at hl 0 rfl) ?_
  refine lv_iload_n hx hb dL_compare_3 rfl (lv_at hl 1 rfl) ?_
  refine lv_iload_n hx hb dL_compare_4 rfl (lv_at hl 2 rfl) ?_
  rcases fr_flb hsp with ⟨h1, E1, hsp⟩ | ⟨h1, E1, hsp⟩ | ⟨v, h1, E1, hsp⟩
  · cases hsp
  · refine fz_xV (rest := [.int (0 : Int32), .ref (g.2.2 x3)]) C EX hR (k_X11_compare C.2.2 hlt ha E1) Y_X11_compare YV_X11_compare Lk_RL_45 (fz_rv C hR ha ⟨_, _, rfl, by decide⟩) rfl hl.1 ⟨Nat.le_of_ble_eq_true rfl, Nat.le_of_ble_eq_true rfl⟩ rfl (Nat.le_of_ble_eq_true rfl) ⟨Nat.le_of_ble_eq_true rfl, Nat.le_of_ble_eq_true rfl⟩ dL_compare_5 (fun k q ce H locs eo h1 h2 h3 hR => ?_) (fun v H locs eo hR => by cases eo)
    cases eo
    refine fl_catch1 (k := 1) (st := []) C hN htab (Or.inr rfl) Kl_RL_22 (by decide) (by decide) h1 h2 h3 ?_
    refine lv_astore (lv' := [(4, .ref q), (0, .ref (g.2.2 x0)), (1, .int x1), (2, .int x2), (3, .ref (g.2.2 x3))]) hx hb dL_compare_13 hl (by decide) rfl (fun ls hl => ?_)
    refine lv_iconst (v := 1) hx hb dL_compare_15 (by decide) ?_
    exact fl_iret C hr hlocks hR hsp (Nat.le_of_ble_eq_true rfl) (Nat.le_of_ble_eq_true rfl) dL_compare_16
  · refine fz_xV (rest := [.int (0 : Int32), .ref (g.2.2 x3)]) C EX hR (k_X11_compare C.2.2 hlt ha E1) Y_X11_compare YV_X11_compare Lk_RL_45 (fz_rv C hR ha ⟨_, _, rfl, by decide⟩) rfl hl.1 ⟨Nat.le_of_ble_eq_true rfl, Nat.le_of_ble_eq_true rfl⟩ rfl (Nat.le_of_ble_eq_true rfl) ⟨Nat.le_of_ble_eq_true rfl, Nat.le_of_ble_eq_true rfl⟩ dL_compare_5 (fun k q ce H locs eo h1 h2 h3 hR => by cases eo) (fun v0 H locs eo hR => ?_)
    cases eo
    refine W.eq (g2 := F0 m 8 ls [.int v, .int (0 : Int32), .ref (g.2.2 x3)]) rfl ?_
    refine lv_i2l hx hb dL_compare_8 rfl ?_
    obtain ⟨hk1, hsp⟩ := fr_ck hsp
    obtain ⟨hi1, hsp⟩ := fr_ck hsp
    refine fr_last C hR hk1 hi1 dL_compare_9 (fun H locs hR => ?_)
    obtain ⟨h5, eh5⟩ : ∃ z, z = fh_sJ h1 x3 (Int32.toNatClampNeg 0) (Int32.toInt64 v) := ⟨_, rfl⟩
    rw [← eh5] at hR
    have hsp := fr_let eh5 hsp
    refine lv_goto (tgt := 17) hx hb dL_compare_10 (by decide) ?_
    refine lv_iconst (v := 0) hx hb dL_compare_17 (by decide) ?_
    exact fl_iret C hr hlocks hR hsp (Nat.le_of_ble_eq_true rfl) (Nat.le_of_ble_eq_true rfl) dL_compare_18
/-! TermRowsLaw.alike(LTermRows;II[J)I -/
def z_L_alike (S : fh_S) (h : fh_H) (x0 : Nat) (x1 : Int32) (x2 : Int32) (x3 : Nat) : Option (Int32 × fh_H) :=
    fl_b (z_X11_alike S h x0 x1 x2) none (some 1) (fun r h1 => fh_ck (fh_kq S x3 14) (fh_ck (fh_in 0 (S.2.2 x3)) (fh_let (fh_sJ h1 x3 (Int32.toNatClampNeg 0) (Int32.toInt64 r)) (fun h2 => some (0, h2)))))
set_option maxHeartbeats 4000000 in
theorem k_L_alike {l : Launch} {S : fh_S} {g : fh_G} {h h' : fh_H} {z : (Nat → Nat) × (Nat → Nat)} (hj : fh_inj S g) (hlt : l.stackTraces = false) {x0 x3 : Nat} {x1 x2 : Int32} {r : Int32} (ha : fh_kq S x0 11 = true) (hsp : z_L_alike S h x0 x1 x2 x3 = some (r, h')) : fl_M l yL_alike cL_alike 5 [(0, 10, 13, 22)] 8 2 S g z [.ref (g.2.2 x0), .int x1, .int x2, .ref (g.2.2 x3)] h r h' := by
  unfold z_L_alike at hsp
  refine fl_head (own := RL) (by decide) rfl hj (Nat.le_of_ble_eq_true rfl) ?_
  intro p e s m below meth c ls C EX hN htab hr hlocks hR hl
  have hl : lv_has ls 5 [(0, .ref (g.2.2 x0)), (1, .int x1), (2, .int x2), (3, .ref (g.2.2 x3))] := hl
  have hx := C.1.1
  have hb := C.1.2.1
  refine lv_aload_n hx hb dL_alike_0 rfl (lv_at hl 3 rfl) ?_
  refine lv_iconst (v := 0) hx hb dL_alike_1 (by decide) ?_
  refine lv_aload_n hx hb dL_alike_2 rfl (lv_at hl 0 rfl) ?_
  refine lv_iload_n hx hb dL_alike_3 rfl (lv_at hl 1 rfl) ?_
  refine lv_iload_n hx hb dL_alike_4 rfl (lv_at hl 2 rfl) ?_
  rcases fr_flb hsp with ⟨h1, E1, hsp⟩ | ⟨h1, E1, hsp⟩ | ⟨v, h1, E1, hsp⟩
  · cases hsp
  · refine fz_xV (rest := [.int (0 : Int32), .ref (g.2.2 x3)]) C EX hR (k_X11_alike C.2.2 hlt ha E1) Y_X11_alike YV_X11_alike Lk_RL_48 (fz_rv C hR ha ⟨_, _, rfl, by decide⟩) rfl hl.1 ⟨Nat.le_of_ble_eq_true rfl, Nat.le_of_ble_eq_true rfl⟩ rfl (Nat.le_of_ble_eq_true rfl) ⟨Nat.le_of_ble_eq_true rfl, Nat.le_of_ble_eq_true rfl⟩ dL_alike_5 (fun k q ce H locs eo h1 h2 h3 hR => ?_) (fun v H locs eo hR => by cases eo)
    cases eo
    refine fl_catch1 (k := 1) (st := []) C hN htab (Or.inr rfl) Kl_RL_22 (by decide) (by decide) h1 h2 h3 ?_
    refine lv_astore (lv' := [(4, .ref q), (0, .ref (g.2.2 x0)), (1, .int x1), (2, .int x2), (3, .ref (g.2.2 x3))]) hx hb dL_alike_13 hl (by decide) rfl (fun ls hl => ?_)
    refine lv_iconst (v := 1) hx hb dL_alike_15 (by decide) ?_
    exact fl_iret C hr hlocks hR hsp (Nat.le_of_ble_eq_true rfl) (Nat.le_of_ble_eq_true rfl) dL_alike_16
  · refine fz_xV (rest := [.int (0 : Int32), .ref (g.2.2 x3)]) C EX hR (k_X11_alike C.2.2 hlt ha E1) Y_X11_alike YV_X11_alike Lk_RL_48 (fz_rv C hR ha ⟨_, _, rfl, by decide⟩) rfl hl.1 ⟨Nat.le_of_ble_eq_true rfl, Nat.le_of_ble_eq_true rfl⟩ rfl (Nat.le_of_ble_eq_true rfl) ⟨Nat.le_of_ble_eq_true rfl, Nat.le_of_ble_eq_true rfl⟩ dL_alike_5 (fun k q ce H locs eo h1 h2 h3 hR => by cases eo) (fun v0 H locs eo hR => ?_)
    cases eo
    refine W.eq (g2 := F0 m 8 ls [.int v, .int (0 : Int32), .ref (g.2.2 x3)]) rfl ?_
    refine lv_i2l hx hb dL_alike_8 rfl ?_
    obtain ⟨hk1, hsp⟩ := fr_ck hsp
    obtain ⟨hi1, hsp⟩ := fr_ck hsp
    refine fr_last C hR hk1 hi1 dL_alike_9 (fun H locs hR => ?_)
    obtain ⟨h5, eh5⟩ : ∃ z, z = fh_sJ h1 x3 (Int32.toNatClampNeg 0) (Int32.toInt64 v) := ⟨_, rfl⟩
    rw [← eh5] at hR
    have hsp := fr_let eh5 hsp
    refine lv_goto (tgt := 17) hx hb dL_alike_10 (by decide) ?_
    refine lv_iconst (v := 0) hx hb dL_alike_17 (by decide) ?_
    exact fl_iret C hr hlocks hR hsp (Nat.le_of_ble_eq_true rfl) (Nat.le_of_ble_eq_true rfl) dL_alike_18
/-! TermRowsLaw.again(LTermRows;II[J)I -/
def z_L_again (S : fh_S) (h : fh_H) (x0 : Nat) (x1 : Int32) (x2 : Int32) (x3 : Nat) : Option (Int32 × fh_H) :=
    fl_b (z_X11_again S h x0 x1 x2) none (some 1) (fun r h1 => fh_ck (fh_kq S x3 14) (fh_ck (fh_in 0 (S.2.2 x3)) (fh_let (fh_sJ h1 x3 (Int32.toNatClampNeg 0) (Int32.toInt64 r)) (fun h2 => some (0, h2)))))
set_option maxHeartbeats 4000000 in
theorem k_L_again {l : Launch} {S : fh_S} {g : fh_G} {h h' : fh_H} {z : (Nat → Nat) × (Nat → Nat)} (hj : fh_inj S g) (hlt : l.stackTraces = false) {x0 x3 : Nat} {x1 x2 : Int32} {r : Int32} (ha : fh_kq S x0 11 = true) (hsp : z_L_again S h x0 x1 x2 x3 = some (r, h')) : fl_M l yL_again cL_again 5 [(0, 10, 13, 22)] 8 2 S g z [.ref (g.2.2 x0), .int x1, .int x2, .ref (g.2.2 x3)] h r h' := by
  unfold z_L_again at hsp
  refine fl_head (own := RL) (by decide) rfl hj (Nat.le_of_ble_eq_true rfl) ?_
  intro p e s m below meth c ls C EX hN htab hr hlocks hR hl
  have hl : lv_has ls 5 [(0, .ref (g.2.2 x0)), (1, .int x1), (2, .int x2), (3, .ref (g.2.2 x3))] := hl
  have hx := C.1.1
  have hb := C.1.2.1
  refine lv_aload_n hx hb dL_again_0 rfl (lv_at hl 3 rfl) ?_
  refine lv_iconst (v := 0) hx hb dL_again_1 (by decide) ?_
  refine lv_aload_n hx hb dL_again_2 rfl (lv_at hl 0 rfl) ?_
  refine lv_iload_n hx hb dL_again_3 rfl (lv_at hl 1 rfl) ?_
  refine lv_iload_n hx hb dL_again_4 rfl (lv_at hl 2 rfl) ?_
  rcases fr_flb hsp with ⟨h1, E1, hsp⟩ | ⟨h1, E1, hsp⟩ | ⟨v, h1, E1, hsp⟩
  · cases hsp
  · refine fz_xV (rest := [.int (0 : Int32), .ref (g.2.2 x3)]) C EX hR (k_X11_again C.2.2 hlt ha E1) Y_X11_again YV_X11_again Lk_RL_51 (fz_rv C hR ha ⟨_, _, rfl, by decide⟩) rfl hl.1 ⟨Nat.le_of_ble_eq_true rfl, Nat.le_of_ble_eq_true rfl⟩ rfl (Nat.le_of_ble_eq_true rfl) ⟨Nat.le_of_ble_eq_true rfl, Nat.le_of_ble_eq_true rfl⟩ dL_again_5 (fun k q ce H locs eo h1 h2 h3 hR => ?_) (fun v H locs eo hR => by cases eo)
    cases eo
    refine fl_catch1 (k := 1) (st := []) C hN htab (Or.inr rfl) Kl_RL_22 (by decide) (by decide) h1 h2 h3 ?_
    refine lv_astore (lv' := [(4, .ref q), (0, .ref (g.2.2 x0)), (1, .int x1), (2, .int x2), (3, .ref (g.2.2 x3))]) hx hb dL_again_13 hl (by decide) rfl (fun ls hl => ?_)
    refine lv_iconst (v := 1) hx hb dL_again_15 (by decide) ?_
    exact fl_iret C hr hlocks hR hsp (Nat.le_of_ble_eq_true rfl) (Nat.le_of_ble_eq_true rfl) dL_again_16
  · refine fz_xV (rest := [.int (0 : Int32), .ref (g.2.2 x3)]) C EX hR (k_X11_again C.2.2 hlt ha E1) Y_X11_again YV_X11_again Lk_RL_51 (fz_rv C hR ha ⟨_, _, rfl, by decide⟩) rfl hl.1 ⟨Nat.le_of_ble_eq_true rfl, Nat.le_of_ble_eq_true rfl⟩ rfl (Nat.le_of_ble_eq_true rfl) ⟨Nat.le_of_ble_eq_true rfl, Nat.le_of_ble_eq_true rfl⟩ dL_again_5 (fun k q ce H locs eo h1 h2 h3 hR => by cases eo) (fun v0 H locs eo hR => ?_)
    cases eo
    refine W.eq (g2 := F0 m 8 ls [.int v, .int (0 : Int32), .ref (g.2.2 x3)]) rfl ?_
    refine lv_i2l hx hb dL_again_8 rfl ?_
    obtain ⟨hk1, hsp⟩ := fr_ck hsp
    obtain ⟨hi1, hsp⟩ := fr_ck hsp
    refine fr_last C hR hk1 hi1 dL_again_9 (fun H locs hR => ?_)
    obtain ⟨h5, eh5⟩ : ∃ z, z = fh_sJ h1 x3 (Int32.toNatClampNeg 0) (Int32.toInt64 v) := ⟨_, rfl⟩
    rw [← eh5] at hR
    have hsp := fr_let eh5 hsp
    refine lv_goto (tgt := 17) hx hb dL_again_10 (by decide) ?_
    refine lv_iconst (v := 0) hx hb dL_again_17 (by decide) ?_
    exact fl_iret C hr hlocks hR hsp (Nat.le_of_ble_eq_true rfl) (Nat.le_of_ble_eq_true rfl) dL_again_18
/-! TermRowsLaw.tails(LTermRows;III[J)I -/
def z_L_tails (S : fh_S) (h : fh_H) (x0 : Nat) (x1 : Int32) (x2 : Int32) (x3 : Int32) (x4 : Nat) : Option (Int32 × fh_H) :=
    fl_b (z_X11_tails S h x0 x1 x2 x3) none (some 1) (fun r h1 => fh_ck (fh_kq S x4 14) (fh_ck (fh_in 0 (S.2.2 x4)) (fh_let (fh_sJ h1 x4 (Int32.toNatClampNeg 0) (Int32.toInt64 r)) (fun h2 => some (0, h2)))))
set_option maxHeartbeats 4000000 in
theorem k_L_tails {l : Launch} {S : fh_S} {g : fh_G} {h h' : fh_H} {z : (Nat → Nat) × (Nat → Nat)} (hj : fh_inj S g) (hlt : l.stackTraces = false) {x0 x4 : Nat} {x1 x2 x3 : Int32} {r : Int32} (ha : fh_kq S x0 11 = true) (hsp : z_L_tails S h x0 x1 x2 x3 x4 = some (r, h')) : fl_M l yL_tails cL_tails 6 [(0, 12, 15, 22)] 8 3 S g z [.ref (g.2.2 x0), .int x1, .int x2, .int x3, .ref (g.2.2 x4)] h r h' := by
  unfold z_L_tails at hsp
  refine fl_head (own := RL) (by decide) rfl hj (Nat.le_of_ble_eq_true rfl) ?_
  intro p e s m below meth c ls C EX hN htab hr hlocks hR hl
  have hl : lv_has ls 6 [(0, .ref (g.2.2 x0)), (1, .int x1), (2, .int x2), (3, .int x3), (4, .ref (g.2.2 x4))] := hl
  have hx := C.1.1
  have hb := C.1.2.1
  refine lv_aload hx hb dL_tails_0 (lv_at hl 4 rfl) ?_
  refine lv_iconst (v := 0) hx hb dL_tails_2 (by decide) ?_
  refine lv_aload_n hx hb dL_tails_3 rfl (lv_at hl 0 rfl) ?_
  refine lv_iload_n hx hb dL_tails_4 rfl (lv_at hl 1 rfl) ?_
  refine lv_iload_n hx hb dL_tails_5 rfl (lv_at hl 2 rfl) ?_
  refine lv_iload_n hx hb dL_tails_6 rfl (lv_at hl 3 rfl) ?_
  rcases fr_flb hsp with ⟨h1, E1, hsp⟩ | ⟨h1, E1, hsp⟩ | ⟨v, h1, E1, hsp⟩
  · cases hsp
  · refine fz_xV (rest := [.int (0 : Int32), .ref (g.2.2 x4)]) C EX hR (k_X11_tails C.2.2 hlt ha E1) Y_X11_tails YV_X11_tails Lk_RL_54 (fz_rv C hR ha ⟨_, _, rfl, by decide⟩) rfl hl.1 ⟨Nat.le_of_ble_eq_true rfl, Nat.le_of_ble_eq_true rfl⟩ rfl (Nat.le_of_ble_eq_true rfl) ⟨Nat.le_of_ble_eq_true rfl, Nat.le_of_ble_eq_true rfl⟩ dL_tails_7 (fun k q ce H locs eo h1 h2 h3 hR => ?_) (fun v H locs eo hR => by cases eo)
    cases eo
    refine fl_catch1 (k := 1) (st := []) C hN htab (Or.inr rfl) Kl_RL_22 (by decide) (by decide) h1 h2 h3 ?_
    refine lv_astore (lv' := [(5, .ref q), (0, .ref (g.2.2 x0)), (1, .int x1), (2, .int x2), (3, .int x3), (4, .ref (g.2.2 x4))]) hx hb dL_tails_15 hl (by decide) rfl (fun ls hl => ?_)
    refine lv_iconst (v := 1) hx hb dL_tails_17 (by decide) ?_
    exact fl_iret C hr hlocks hR hsp (Nat.le_of_ble_eq_true rfl) (Nat.le_of_ble_eq_true rfl) dL_tails_18
  · refine fz_xV (rest := [.int (0 : Int32), .ref (g.2.2 x4)]) C EX hR (k_X11_tails C.2.2 hlt ha E1) Y_X11_tails YV_X11_tails Lk_RL_54 (fz_rv C hR ha ⟨_, _, rfl, by decide⟩) rfl hl.1 ⟨Nat.le_of_ble_eq_true rfl, Nat.le_of_ble_eq_true rfl⟩ rfl (Nat.le_of_ble_eq_true rfl) ⟨Nat.le_of_ble_eq_true rfl, Nat.le_of_ble_eq_true rfl⟩ dL_tails_7 (fun k q ce H locs eo h1 h2 h3 hR => by cases eo) (fun v0 H locs eo hR => ?_)
    cases eo
    refine W.eq (g2 := F0 m 10 ls [.int v, .int (0 : Int32), .ref (g.2.2 x4)]) rfl ?_
    refine lv_i2l hx hb dL_tails_10 rfl ?_
    obtain ⟨hk1, hsp⟩ := fr_ck hsp
    obtain ⟨hi1, hsp⟩ := fr_ck hsp
    refine fr_last C hR hk1 hi1 dL_tails_11 (fun H locs hR => ?_)
    obtain ⟨h5, eh5⟩ : ∃ z, z = fh_sJ h1 x4 (Int32.toNatClampNeg 0) (Int32.toInt64 v) := ⟨_, rfl⟩
    rw [← eh5] at hR
    have hsp := fr_let eh5 hsp
    refine lv_goto (tgt := 19) hx hb dL_tails_12 (by decide) ?_
    refine lv_iconst (v := 0) hx hb dL_tails_19 (by decide) ?_
    exact fl_iret C hr hlocks hR hsp (Nat.le_of_ble_eq_true rfl) (Nat.le_of_ble_eq_true rfl) dL_tails_20
/-! TermRowsLaw.floor(LTermRows;II[J)I -/
def z_L_floor (S : fh_S) (h : fh_H) (x0 : Nat) (x1 : Int32) (x2 : Int32) (x3 : Nat) : Option (Int32 × fh_H) :=
    fl_b (z_X11_floor S h x0 x1 x2) (some 2) (some 1) (fun r h1 => fh_ck (fh_kq S x3 14) (fh_ck (fh_in 0 (S.2.2 x3)) (fh_let (fh_sJ h1 x3 (Int32.toNatClampNeg 0) (Int32.toInt64 r)) (fun h2 => some (0, h2)))))
set_option maxHeartbeats 4000000 in
theorem k_L_floor {l : Launch} {S : fh_S} {g : fh_G} {h h' : fh_H} {z : (Nat → Nat) × (Nat → Nat)} (hj : fh_inj S g) (hlt : l.stackTraces = false) {x0 x3 : Nat} {x1 x2 : Int32} {r : Int32} (ha : fh_kq S x0 11 = true) (hsp : z_L_floor S h x0 x1 x2 x3 = some (r, h')) : fl_M l yL_floor cL_floor 5 [(0, 10, 13, 22), (0, 10, 17, 13)] 8 2 S g z [.ref (g.2.2 x0), .int x1, .int x2, .ref (g.2.2 x3)] h r h' := by
  unfold z_L_floor at hsp
  refine fl_head (own := RL) (by decide) rfl hj (Nat.le_of_ble_eq_true rfl) ?_
  intro p e s m below meth c ls C EX hN htab hr hlocks hR hl
  have hl : lv_has ls 5 [(0, .ref (g.2.2 x0)), (1, .int x1), (2, .int x2), (3, .ref (g.2.2 x3))] := hl
  have hx := C.1.1
  have hb := C.1.2.1
  refine lv_aload_n hx hb dL_floor_0 rfl (lv_at hl 3 rfl) ?_
  refine lv_iconst (v := 0) hx hb dL_floor_1 (by decide) ?_
  refine lv_aload_n hx hb dL_floor_2 rfl (lv_at hl 0 rfl) ?_
  refine lv_iload_n hx hb dL_floor_3 rfl (lv_at hl 1 rfl) ?_
  refine lv_iload_n hx hb dL_floor_4 rfl (lv_at hl 2 rfl) ?_
  rcases fr_flb hsp with ⟨h1, E1, hsp⟩ | ⟨h1, E1, hsp⟩ | ⟨v, h1, E1, hsp⟩
  · refine fz_xV (rest := [.int (0 : Int32), .ref (g.2.2 x3)]) C EX hR (k_X11_floor C.2.2 hlt ha E1) Y_X11_floor YV_X11_floor Lk_RL_58 (fz_rv C hR ha ⟨_, _, rfl, by decide⟩) rfl hl.1 ⟨Nat.le_of_ble_eq_true rfl, Nat.le_of_ble_eq_true rfl⟩ rfl (Nat.le_of_ble_eq_true rfl) ⟨Nat.le_of_ble_eq_true rfl, Nat.le_of_ble_eq_true rfl⟩ dL_floor_5 (fun k q ce H locs eo h1 h2 h3 hR => ?_) (fun v H locs eo hR => by cases eo)
    cases eo
    refine fl_catch2 C hN htab Kl_RL_22 Kl_RL_13 (by decide) (by decide) (by decide) h1 h2 h3 ?_
    refine lv_astore (lv' := [(4, .ref q), (0, .ref (g.2.2 x0)), (1, .int x1), (2, .int x2), (3, .ref (g.2.2 x3))]) hx hb dL_floor_17 hl (by decide) rfl (fun ls hl => ?_)
    refine lv_iconst (v := 2) hx hb dL_floor_19 (by decide) ?_
    exact fl_iret C hr hlocks hR hsp (Nat.le_of_ble_eq_true rfl) (Nat.le_of_ble_eq_true rfl) dL_floor_20
  · refine fz_xV (rest := [.int (0 : Int32), .ref (g.2.2 x3)]) C EX hR (k_X11_floor C.2.2 hlt ha E1) Y_X11_floor YV_X11_floor Lk_RL_58 (fz_rv C hR ha ⟨_, _, rfl, by decide⟩) rfl hl.1 ⟨Nat.le_of_ble_eq_true rfl, Nat.le_of_ble_eq_true rfl⟩ rfl (Nat.le_of_ble_eq_true rfl) ⟨Nat.le_of_ble_eq_true rfl, Nat.le_of_ble_eq_true rfl⟩ dL_floor_5 (fun k q ce H locs eo h1 h2 h3 hR => ?_) (fun v H locs eo hR => by cases eo)
    cases eo
    refine fl_catch1 (k := 1) (st := [(0, 10, 17, 13)]) C hN htab (Or.inr rfl) Kl_RL_22 (by decide) (by decide) h1 h2 h3 ?_
    refine lv_astore (lv' := [(4, .ref q), (0, .ref (g.2.2 x0)), (1, .int x1), (2, .int x2), (3, .ref (g.2.2 x3))]) hx hb dL_floor_13 hl (by decide) rfl (fun ls hl => ?_)
    refine lv_iconst (v := 1) hx hb dL_floor_15 (by decide) ?_
    exact fl_iret C hr hlocks hR hsp (Nat.le_of_ble_eq_true rfl) (Nat.le_of_ble_eq_true rfl) dL_floor_16
  · refine fz_xV (rest := [.int (0 : Int32), .ref (g.2.2 x3)]) C EX hR (k_X11_floor C.2.2 hlt ha E1) Y_X11_floor YV_X11_floor Lk_RL_58 (fz_rv C hR ha ⟨_, _, rfl, by decide⟩) rfl hl.1 ⟨Nat.le_of_ble_eq_true rfl, Nat.le_of_ble_eq_true rfl⟩ rfl (Nat.le_of_ble_eq_true rfl) ⟨Nat.le_of_ble_eq_true rfl, Nat.le_of_ble_eq_true rfl⟩ dL_floor_5 (fun k q ce H locs eo h1 h2 h3 hR => by cases eo) (fun v0 H locs eo hR => ?_)
    cases eo
    refine W.eq (g2 := F0 m 8 ls [.int v, .int (0 : Int32), .ref (g.2.2 x3)]) rfl ?_
    refine lv_i2l hx hb dL_floor_8 rfl ?_
    obtain ⟨hk1, hsp⟩ := fr_ck hsp
    obtain ⟨hi1, hsp⟩ := fr_ck hsp
    refine fr_last C hR hk1 hi1 dL_floor_9 (fun H locs hR => ?_)
    obtain ⟨h5, eh5⟩ : ∃ z, z = fh_sJ h1 x3 (Int32.toNatClampNeg 0) (Int32.toInt64 v) := ⟨_, rfl⟩
    rw [← eh5] at hR
    have hsp := fr_let eh5 hsp
    refine lv_goto (tgt := 21) hx hb dL_floor_10 (by decide) ?_
    refine lv_iconst (v := 0) hx hb dL_floor_21 (by decide) ?_
    exact fl_iret C hr hlocks hR hsp (Nat.le_of_ble_eq_true rfl) (Nat.le_of_ble_eq_true rfl) dL_floor_22
/-! TermRowsLaw.would(LTermRows;IIIIII[J)I -/
def z_L_would (S : fh_S) (h : fh_H) (x0 : Nat) (x1 : Int32) (x2 : Int32) (x3 : Int32) (x4 : Int32) (x5 : Int32) (x6 : Int32) (x7 : Nat) : Option (Int32 × fh_H) :=
    fl_b (z_X11_would S h x0 x1 x2 x3 x4 x5 x6) (some 2) (some 1) (fun r h1 => fh_ck (fh_kq S x7 14) (fh_ck (fh_in 0 (S.2.2 x7)) (fh_let (fh_sJ h1 x7 (Int32.toNatClampNeg 0) (Int32.toInt64 r)) (fun h2 => some (0, h2)))))
set_option maxHeartbeats 4000000 in
theorem k_L_would {l : Launch} {S : fh_S} {g : fh_G} {h h' : fh_H} {z : (Nat → Nat) × (Nat → Nat)} (hj : fh_inj S g) (hlt : l.stackTraces = false) {x0 x7 : Nat} {x1 x2 x3 x4 x5 x6 : Int32} {r : Int32} (ha : fh_kq S x0 11 = true) (hsp : z_L_would S h x0 x1 x2 x3 x4 x5 x6 x7 = some (r, h')) : fl_M l yL_would cL_would 9 [(0, 18, 21, 22), (0, 18, 25, 13)] 8 2 S g z [.ref (g.2.2 x0), .int x1, .int x2, .int x3, .int x4, .int x5, .int x6, .ref (g.2.2 x7)] h r h' := by
  unfold z_L_would at hsp
  refine fl_head (own := RL) (by decide) rfl hj (Nat.le_of_ble_eq_true rfl) ?_
  intro p e s m below meth c ls C EX hN htab hr hlocks hR hl
  have hl : lv_has ls 9 [(0, .ref (g.2.2 x0)), (1, .int x1), (2, .int x2), (3, .int x3), (4, .int x4), (5, .int x5), (6, .int x6), (7, .ref (g.2.2 x7))] := hl
  have hx := C.1.1
  have hb := C.1.2.1
  refine lv_aload hx hb dL_would_0 (lv_at hl 7 rfl) ?_
  refine lv_iconst (v := 0) hx hb dL_would_2 (by decide) ?_
  refine lv_aload_n hx hb dL_would_3 rfl (lv_at hl 0 rfl) ?_
  refine lv_iload_n hx hb dL_would_4 rfl (lv_at hl 1 rfl) ?_
  refine lv_iload_n hx hb dL_would_5 rfl (lv_at hl 2 rfl) ?_
  refine lv_iload_n hx hb dL_would_6 rfl (lv_at hl 3 rfl) ?_
  refine lv_iload hx hb dL_would_7 (lv_at hl 4 rfl) ?_
  refine lv_iload hx hb dL_would_9 (lv_at hl 5 rfl) ?_
  refine lv_iload hx hb dL_would_11 (lv_at hl 6 rfl) ?_
  rcases fr_flb hsp with ⟨h1, E1, hsp⟩ | ⟨h1, E1, hsp⟩ | ⟨v, h1, E1, hsp⟩
  · refine fz_xV (rest := [.int (0 : Int32), .ref (g.2.2 x7)]) C EX hR (k_X11_would C.2.2 hlt ha E1) Y_X11_would YV_X11_would Lk_RL_61 (fz_rv C hR ha ⟨_, _, rfl, by decide⟩) rfl hl.1 ⟨Nat.le_of_ble_eq_true rfl, Nat.le_of_ble_eq_true rfl⟩ rfl (Nat.le_of_ble_eq_true rfl) ⟨Nat.le_of_ble_eq_true rfl, Nat.le_of_ble_eq_true rfl⟩ dL_would_13 (fun k q ce H locs eo h1 h2 h3 hR => ?_) (fun v H locs eo hR => by cases eo)
    cases eo
    refine fl_catch2 C hN htab Kl_RL_22 Kl_RL_13 (by decide) (by decide) (by decide) h1 h2 h3 ?_
    refine lv_astore (lv' := [(8, .ref q), (0, .ref (g.2.2 x0)), (1, .int x1), (2, .int x2), (3, .int x3), (4, .int x4), (5, .int x5), (6, .int x6), (7, .ref (g.2.2 x7))]) hx hb dL_would_25 hl (by decide) rfl (fun ls hl => ?_)
    refine lv_iconst (v := 2) hx hb dL_would_27 (by decide) ?_
    exact fl_iret C hr hlocks hR hsp (Nat.le_of_ble_eq_true rfl) (Nat.le_of_ble_eq_true rfl) dL_would_28
  · refine fz_xV (rest := [.int (0 : Int32), .ref (g.2.2 x7)]) C EX hR (k_X11_would C.2.2 hlt ha E1) Y_X11_would YV_X11_would Lk_RL_61 (fz_rv C hR ha ⟨_, _, rfl, by decide⟩) rfl hl.1 ⟨Nat.le_of_ble_eq_true rfl, Nat.le_of_ble_eq_true rfl⟩ rfl (Nat.le_of_ble_eq_true rfl) ⟨Nat.le_of_ble_eq_true rfl, Nat.le_of_ble_eq_true rfl⟩ dL_would_13 (fun k q ce H locs eo h1 h2 h3 hR => ?_) (fun v H locs eo hR => by cases eo)
    cases eo
    refine fl_catch1 (k := 1) (st := [(0, 18, 25, 13)]) C hN htab (Or.inr rfl) Kl_RL_22 (by decide) (by decide) h1 h2 h3 ?_
    refine lv_astore (lv' := [(8, .ref q), (0, .ref (g.2.2 x0)), (1, .int x1), (2, .int x2), (3, .int x3), (4, .int x4), (5, .int x5), (6, .int x6), (7, .ref (g.2.2 x7))]) hx hb dL_would_21 hl (by decide) rfl (fun ls hl => ?_)
    refine lv_iconst (v := 1) hx hb dL_would_23 (by decide) ?_
    exact fl_iret C hr hlocks hR hsp (Nat.le_of_ble_eq_true rfl) (Nat.le_of_ble_eq_true rfl) dL_would_24
  · refine fz_xV (rest := [.int (0 : Int32), .ref (g.2.2 x7)]) C EX hR (k_X11_would C.2.2 hlt ha E1) Y_X11_would YV_X11_would Lk_RL_61 (fz_rv C hR ha ⟨_, _, rfl, by decide⟩) rfl hl.1 ⟨Nat.le_of_ble_eq_true rfl, Nat.le_of_ble_eq_true rfl⟩ rfl (Nat.le_of_ble_eq_true rfl) ⟨Nat.le_of_ble_eq_true rfl, Nat.le_of_ble_eq_true rfl⟩ dL_would_13 (fun k q ce H locs eo h1 h2 h3 hR => by cases eo) (fun v0 H locs eo hR => ?_)
    cases eo
    refine W.eq (g2 := F0 m 16 ls [.int v, .int (0 : Int32), .ref (g.2.2 x7)]) rfl ?_
    refine lv_i2l hx hb dL_would_16 rfl ?_
    obtain ⟨hk1, hsp⟩ := fr_ck hsp
    obtain ⟨hi1, hsp⟩ := fr_ck hsp
    refine fr_last C hR hk1 hi1 dL_would_17 (fun H locs hR => ?_)
    obtain ⟨h5, eh5⟩ : ∃ z, z = fh_sJ h1 x7 (Int32.toNatClampNeg 0) (Int32.toInt64 v) := ⟨_, rfl⟩
    rw [← eh5] at hR
    have hsp := fr_let eh5 hsp
    refine lv_goto (tgt := 29) hx hb dL_would_18 (by decide) ?_
    refine lv_iconst (v := 0) hx hb dL_would_29 (by decide) ?_
    exact fl_iret C hr hlocks hR hsp (Nat.le_of_ble_eq_true rfl) (Nat.le_of_ble_eq_true rfl) dL_would_30
/-! TermRowsLaw.often(LTermRows;II[J)I -/
def z_L_often (S : fh_S) (h : fh_H) (x0 : Nat) (x1 : Int32) (x2 : Int32) (x3 : Nat) : Option (Int32 × fh_H) :=
    fl_b (z_X11_often S h x0 x1 x2) none (some 1) (fun r h1 => fh_ck (fh_kq S x3 14) (fh_ck (fh_in 0 (S.2.2 x3)) (fh_let (fh_sJ h1 x3 (Int32.toNatClampNeg 0) (Int32.toInt64 r)) (fun h2 => some (0, h2)))))
set_option maxHeartbeats 4000000 in
theorem k_L_often {l : Launch} {S : fh_S} {g : fh_G} {h h' : fh_H} {z : (Nat → Nat) × (Nat → Nat)} (hj : fh_inj S g) (hlt : l.stackTraces = false) {x0 x3 : Nat} {x1 x2 : Int32} {r : Int32} (ha : fh_kq S x0 11 = true) (hsp : z_L_often S h x0 x1 x2 x3 = some (r, h')) : fl_M l yL_often cL_often 5 [(0, 10, 13, 22)] 8 1 S g z [.ref (g.2.2 x0), .int x1, .int x2, .ref (g.2.2 x3)] h r h' := by
  unfold z_L_often at hsp
  refine fl_head (own := RL) (by decide) rfl hj (Nat.le_of_ble_eq_true rfl) ?_
  intro p e s m below meth c ls C EX hN htab hr hlocks hR hl
  have hl : lv_has ls 5 [(0, .ref (g.2.2 x0)), (1, .int x1), (2, .int x2), (3, .ref (g.2.2 x3))] := hl
  have hx := C.1.1
  have hb := C.1.2.1
  refine lv_aload_n hx hb dL_often_0 rfl (lv_at hl 3 rfl) ?_
  refine lv_iconst (v := 0) hx hb dL_often_1 (by decide) ?_
  refine lv_aload_n hx hb dL_often_2 rfl (lv_at hl 0 rfl) ?_
  refine lv_iload_n hx hb dL_often_3 rfl (lv_at hl 1 rfl) ?_
  refine lv_iload_n hx hb dL_often_4 rfl (lv_at hl 2 rfl) ?_
  rcases fr_flb hsp with ⟨h1, E1, hsp⟩ | ⟨h1, E1, hsp⟩ | ⟨v, h1, E1, hsp⟩
  · cases hsp
  · refine fz_xV (rest := [.int (0 : Int32), .ref (g.2.2 x3)]) C EX hR (k_X11_often C.2.2 hlt ha E1) Y_X11_often YV_X11_often Lk_RL_65 (fz_rv C hR ha ⟨_, _, rfl, by decide⟩) rfl hl.1 ⟨Nat.le_of_ble_eq_true rfl, Nat.le_of_ble_eq_true rfl⟩ rfl (Nat.le_of_ble_eq_true rfl) ⟨Nat.le_of_ble_eq_true rfl, Nat.le_of_ble_eq_true rfl⟩ dL_often_5 (fun k q ce H locs eo h1 h2 h3 hR => ?_) (fun v H locs eo hR => by cases eo)
    cases eo
    refine fl_catch1 (k := 1) (st := []) C hN htab (Or.inr rfl) Kl_RL_22 (by decide) (by decide) h1 h2 h3 ?_
    refine lv_astore (lv' := [(4, .ref q), (0, .ref (g.2.2 x0)), (1, .int x1), (2, .int x2), (3, .ref (g.2.2 x3))]) hx hb dL_often_13 hl (by decide) rfl (fun ls hl => ?_)
    refine lv_iconst (v := 1) hx hb dL_often_15 (by decide) ?_
    exact fl_iret C hr hlocks hR hsp (Nat.le_of_ble_eq_true rfl) (Nat.le_of_ble_eq_true rfl) dL_often_16
  · refine fz_xV (rest := [.int (0 : Int32), .ref (g.2.2 x3)]) C EX hR (k_X11_often C.2.2 hlt ha E1) Y_X11_often YV_X11_often Lk_RL_65 (fz_rv C hR ha ⟨_, _, rfl, by decide⟩) rfl hl.1 ⟨Nat.le_of_ble_eq_true rfl, Nat.le_of_ble_eq_true rfl⟩ rfl (Nat.le_of_ble_eq_true rfl) ⟨Nat.le_of_ble_eq_true rfl, Nat.le_of_ble_eq_true rfl⟩ dL_often_5 (fun k q ce H locs eo h1 h2 h3 hR => by cases eo) (fun v0 H locs eo hR => ?_)
    cases eo
    refine W.eq (g2 := F0 m 8 ls [.int v, .int (0 : Int32), .ref (g.2.2 x3)]) rfl ?_
    refine lv_i2l hx hb dL_often_8 rfl ?_
    obtain ⟨hk1, hsp⟩ := fr_ck hsp
    obtain ⟨hi1, hsp⟩ := fr_ck hsp
    refine fr_last C hR hk1 hi1 dL_often_9 (fun H locs hR => ?_)
    obtain ⟨h5, eh5⟩ : ∃ z, z = fh_sJ h1 x3 (Int32.toNatClampNeg 0) (Int32.toInt64 v) := ⟨_, rfl⟩
    rw [← eh5] at hR
    have hsp := fr_let eh5 hsp
    refine lv_goto (tgt := 17) hx hb dL_often_10 (by decide) ?_
    refine lv_iconst (v := 0) hx hb dL_often_17 (by decide) ?_
    exact fl_iret C hr hlocks hR hsp (Nat.le_of_ble_eq_true rfl) (Nat.le_of_ble_eq_true rfl) dL_often_18
/-! TermRowsLaw.left(LTermRows;III[J)I -/
def z_L_left (S : fh_S) (h : fh_H) (x0 : Nat) (x1 : Int32) (x2 : Int32) (x3 : Int32) (x4 : Nat) : Option (Int32 × fh_H) :=
    fl_b (z_X11_left S h x0 x1 x2 x3) none (some 1) (fun r h1 => fh_ck (fh_kq S x4 14) (fh_ck (fh_in 0 (S.2.2 x4)) (fh_let (fh_sJ h1 x4 (Int32.toNatClampNeg 0) (Int32.toInt64 r)) (fun h2 => some (0, h2)))))
set_option maxHeartbeats 4000000 in
theorem k_L_left {l : Launch} {S : fh_S} {g : fh_G} {h h' : fh_H} {z : (Nat → Nat) × (Nat → Nat)} (hj : fh_inj S g) (hlt : l.stackTraces = false) {x0 x4 : Nat} {x1 x2 x3 : Int32} {r : Int32} (ha : fh_kq S x0 11 = true) (hsp : z_L_left S h x0 x1 x2 x3 x4 = some (r, h')) : fl_M l yL_left cL_left 6 [(0, 12, 15, 22)] 4 1 S g z [.ref (g.2.2 x0), .int x1, .int x2, .int x3, .ref (g.2.2 x4)] h r h' := by
  unfold z_L_left at hsp
  refine fl_head (own := RL) (by decide) rfl hj (Nat.le_of_ble_eq_true rfl) ?_
  intro p e s m below meth c ls C EX hN htab hr hlocks hR hl
  have hl : lv_has ls 6 [(0, .ref (g.2.2 x0)), (1, .int x1), (2, .int x2), (3, .int x3), (4, .ref (g.2.2 x4))] := hl
  have hx := C.1.1
  have hb := C.1.2.1
  refine lv_aload hx hb dL_left_0 (lv_at hl 4 rfl) ?_
  refine lv_iconst (v := 0) hx hb dL_left_2 (by decide) ?_
  refine lv_aload_n hx hb dL_left_3 rfl (lv_at hl 0 rfl) ?_
  refine lv_iload_n hx hb dL_left_4 rfl (lv_at hl 1 rfl) ?_
  refine lv_iload_n hx hb dL_left_5 rfl (lv_at hl 2 rfl) ?_
  refine lv_iload_n hx hb dL_left_6 rfl (lv_at hl 3 rfl) ?_
  rcases fr_flb hsp with ⟨h1, E1, hsp⟩ | ⟨h1, E1, hsp⟩ | ⟨v, h1, E1, hsp⟩
  · cases hsp
  · refine fz_xV (rest := [.int (0 : Int32), .ref (g.2.2 x4)]) C EX hR (k_X11_left C.2.2 hlt ha E1) Y_X11_left YV_X11_left Lk_RL_68 (fz_rv C hR ha ⟨_, _, rfl, by decide⟩) rfl hl.1 ⟨Nat.le_of_ble_eq_true rfl, Nat.le_of_ble_eq_true rfl⟩ rfl (Nat.le_of_ble_eq_true rfl) ⟨Nat.le_of_ble_eq_true rfl, Nat.le_of_ble_eq_true rfl⟩ dL_left_7 (fun k q ce H locs eo h1 h2 h3 hR => ?_) (fun v H locs eo hR => by cases eo)
    cases eo
    refine fl_catch1 (k := 1) (st := []) C hN htab (Or.inr rfl) Kl_RL_22 (by decide) (by decide) h1 h2 h3 ?_
    refine lv_astore (lv' := [(5, .ref q), (0, .ref (g.2.2 x0)), (1, .int x1), (2, .int x2), (3, .int x3), (4, .ref (g.2.2 x4))]) hx hb dL_left_15 hl (by decide) rfl (fun ls hl => ?_)
    refine lv_iconst (v := 1) hx hb dL_left_17 (by decide) ?_
    exact fl_iret C hr hlocks hR hsp (Nat.le_of_ble_eq_true rfl) (Nat.le_of_ble_eq_true rfl) dL_left_18
  · refine fz_xV (rest := [.int (0 : Int32), .ref (g.2.2 x4)]) C EX hR (k_X11_left C.2.2 hlt ha E1) Y_X11_left YV_X11_left Lk_RL_68 (fz_rv C hR ha ⟨_, _, rfl, by decide⟩) rfl hl.1 ⟨Nat.le_of_ble_eq_true rfl, Nat.le_of_ble_eq_true rfl⟩ rfl (Nat.le_of_ble_eq_true rfl) ⟨Nat.le_of_ble_eq_true rfl, Nat.le_of_ble_eq_true rfl⟩ dL_left_7 (fun k q ce H locs eo h1 h2 h3 hR => by cases eo) (fun v0 H locs eo hR => ?_)
    cases eo
    refine W.eq (g2 := F0 m 10 ls [.int v, .int (0 : Int32), .ref (g.2.2 x4)]) rfl ?_
    refine lv_i2l hx hb dL_left_10 rfl ?_
    obtain ⟨hk1, hsp⟩ := fr_ck hsp
    obtain ⟨hi1, hsp⟩ := fr_ck hsp
    refine fr_last C hR hk1 hi1 dL_left_11 (fun H locs hR => ?_)
    obtain ⟨h5, eh5⟩ : ∃ z, z = fh_sJ h1 x4 (Int32.toNatClampNeg 0) (Int32.toInt64 v) := ⟨_, rfl⟩
    rw [← eh5] at hR
    have hsp := fr_let eh5 hsp
    refine lv_goto (tgt := 19) hx hb dL_left_12 (by decide) ?_
    refine lv_iconst (v := 0) hx hb dL_left_19 (by decide) ?_
    exact fl_iret C hr hlocks hR hsp (Nat.le_of_ble_eq_true rfl) (Nat.le_of_ble_eq_true rfl) dL_left_20
/-! TermRowsLaw.say(LTermRows;II[J)I -/
def z_L_say (S : fh_S) (h : fh_H) (x0 : Nat) (x1 : Int32) (x2 : Int32) (x3 : Nat) : Option (Int32 × fh_H) :=
    fl_b (z_X11_say S h x0 x1 x2) (some 2) (some 1) (fun r h1 => fh_ck (fh_kq S x3 14) (fh_ck (fh_in 0 (S.2.2 x3)) (fh_let (fh_sJ h1 x3 (Int32.toNatClampNeg 0) (Int32.toInt64 r)) (fun h2 => some (0, h2)))))
set_option maxHeartbeats 4000000 in
theorem k_L_say {l : Launch} {S : fh_S} {g : fh_G} {h h' : fh_H} {z : (Nat → Nat) × (Nat → Nat)} (hj : fh_inj S g) (hlt : l.stackTraces = false) {x0 x3 : Nat} {x1 x2 : Int32} {r : Int32} (ha : fh_kq S x0 11 = true) (hsp : z_L_say S h x0 x1 x2 x3 = some (r, h')) : fl_M l yL_say cL_say 5 [(0, 10, 13, 22), (0, 10, 17, 13)] 8 2 S g z [.ref (g.2.2 x0), .int x1, .int x2, .ref (g.2.2 x3)] h r h' := by
  unfold z_L_say at hsp
  refine fl_head (own := RL) (by decide) rfl hj (Nat.le_of_ble_eq_true rfl) ?_
  intro p e s m below meth c ls C EX hN htab hr hlocks hR hl
  have hl : lv_has ls 5 [(0, .ref (g.2.2 x0)), (1, .int x1), (2, .int x2), (3, .ref (g.2.2 x3))] := hl
  have hx := C.1.1
  have hb := C.1.2.1
  refine lv_aload_n hx hb dL_say_0 rfl (lv_at hl 3 rfl) ?_
  refine lv_iconst (v := 0) hx hb dL_say_1 (by decide) ?_
  refine lv_aload_n hx hb dL_say_2 rfl (lv_at hl 0 rfl) ?_
  refine lv_iload_n hx hb dL_say_3 rfl (lv_at hl 1 rfl) ?_
  refine lv_iload_n hx hb dL_say_4 rfl (lv_at hl 2 rfl) ?_
  rcases fr_flb hsp with ⟨h1, E1, hsp⟩ | ⟨h1, E1, hsp⟩ | ⟨v, h1, E1, hsp⟩
  · refine fz_xV (rest := [.int (0 : Int32), .ref (g.2.2 x3)]) C EX hR (k_X11_say C.2.2 hlt ha E1) Y_X11_say YV_X11_say Lk_RL_71 (fz_rv C hR ha ⟨_, _, rfl, by decide⟩) rfl hl.1 ⟨Nat.le_of_ble_eq_true rfl, Nat.le_of_ble_eq_true rfl⟩ rfl (Nat.le_of_ble_eq_true rfl) ⟨Nat.le_of_ble_eq_true rfl, Nat.le_of_ble_eq_true rfl⟩ dL_say_5 (fun k q ce H locs eo h1 h2 h3 hR => ?_) (fun v H locs eo hR => by cases eo)
    cases eo
    refine fl_catch2 C hN htab Kl_RL_22 Kl_RL_13 (by decide) (by decide) (by decide) h1 h2 h3 ?_
    refine lv_astore (lv' := [(4, .ref q), (0, .ref (g.2.2 x0)), (1, .int x1), (2, .int x2), (3, .ref (g.2.2 x3))]) hx hb dL_say_17 hl (by decide) rfl (fun ls hl => ?_)
    refine lv_iconst (v := 2) hx hb dL_say_19 (by decide) ?_
    exact fl_iret C hr hlocks hR hsp (Nat.le_of_ble_eq_true rfl) (Nat.le_of_ble_eq_true rfl) dL_say_20
  · refine fz_xV (rest := [.int (0 : Int32), .ref (g.2.2 x3)]) C EX hR (k_X11_say C.2.2 hlt ha E1) Y_X11_say YV_X11_say Lk_RL_71 (fz_rv C hR ha ⟨_, _, rfl, by decide⟩) rfl hl.1 ⟨Nat.le_of_ble_eq_true rfl, Nat.le_of_ble_eq_true rfl⟩ rfl (Nat.le_of_ble_eq_true rfl) ⟨Nat.le_of_ble_eq_true rfl, Nat.le_of_ble_eq_true rfl⟩ dL_say_5 (fun k q ce H locs eo h1 h2 h3 hR => ?_) (fun v H locs eo hR => by cases eo)
    cases eo
    refine fl_catch1 (k := 1) (st := [(0, 10, 17, 13)]) C hN htab (Or.inr rfl) Kl_RL_22 (by decide) (by decide) h1 h2 h3 ?_
    refine lv_astore (lv' := [(4, .ref q), (0, .ref (g.2.2 x0)), (1, .int x1), (2, .int x2), (3, .ref (g.2.2 x3))]) hx hb dL_say_13 hl (by decide) rfl (fun ls hl => ?_)
    refine lv_iconst (v := 1) hx hb dL_say_15 (by decide) ?_
    exact fl_iret C hr hlocks hR hsp (Nat.le_of_ble_eq_true rfl) (Nat.le_of_ble_eq_true rfl) dL_say_16
  · refine fz_xV (rest := [.int (0 : Int32), .ref (g.2.2 x3)]) C EX hR (k_X11_say C.2.2 hlt ha E1) Y_X11_say YV_X11_say Lk_RL_71 (fz_rv C hR ha ⟨_, _, rfl, by decide⟩) rfl hl.1 ⟨Nat.le_of_ble_eq_true rfl, Nat.le_of_ble_eq_true rfl⟩ rfl (Nat.le_of_ble_eq_true rfl) ⟨Nat.le_of_ble_eq_true rfl, Nat.le_of_ble_eq_true rfl⟩ dL_say_5 (fun k q ce H locs eo h1 h2 h3 hR => by cases eo) (fun v0 H locs eo hR => ?_)
    cases eo
    refine W.eq (g2 := F0 m 8 ls [.int v, .int (0 : Int32), .ref (g.2.2 x3)]) rfl ?_
    refine lv_i2l hx hb dL_say_8 rfl ?_
    obtain ⟨hk1, hsp⟩ := fr_ck hsp
    obtain ⟨hi1, hsp⟩ := fr_ck hsp
    refine fr_last C hR hk1 hi1 dL_say_9 (fun H locs hR => ?_)
    obtain ⟨h5, eh5⟩ : ∃ z, z = fh_sJ h1 x3 (Int32.toNatClampNeg 0) (Int32.toInt64 v) := ⟨_, rfl⟩
    rw [← eh5] at hR
    have hsp := fr_let eh5 hsp
    refine lv_goto (tgt := 21) hx hb dL_say_10 (by decide) ?_
    refine lv_iconst (v := 0) hx hb dL_say_21 (by decide) ?_
    exact fl_iret C hr hlocks hR hsp (Nat.le_of_ble_eq_true rfl) (Nat.le_of_ble_eq_true rfl) dL_say_22
